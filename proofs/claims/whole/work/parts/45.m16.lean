/-! PHModel.deeper()V -/
theorem dd182_0 : decode cX13_deeper 0 = .ok (.aload_n 0, 1) := by decide +kernel
theorem dd182_1 : decode cX13_deeper 1 = .ok (.invokevirtual 223, 3) := by decide +kernel
theorem dd182_4 : decode cX13_deeper 4 = .ok (.ifCond .eq 21, 3) := by decide +kernel
theorem dd182_7 : decode cX13_deeper 7 = .ok (.aload_n 0, 1) := by decide +kernel
theorem dd182_8 : decode cX13_deeper 8 = .ok (.getfield 243, 3) := by decide +kernel
theorem dd182_11 : decode cX13_deeper 11 = .ok (.bipush 12, 2) := by decide +kernel
theorem dd182_13 : decode cX13_deeper 13 = .ok (.if_icmp .ne 12, 3) := by decide +kernel
theorem dd182_16 : decode cX13_deeper 16 = .ok (.aload_n 0, 1) := by decide +kernel
theorem dd182_17 : decode cX13_deeper 17 = .ok (.iconst 3, 1) := by decide +kernel
theorem dd182_18 : decode cX13_deeper 18 = .ok (.aload_n 0, 1) := by decide +kernel
theorem dd182_19 : decode cX13_deeper 19 = .ok (.getfield 176, 3) := by decide +kernel
theorem dd182_22 : decode cX13_deeper 22 = .ok (.invokevirtual 215, 3) := by decide +kernel
theorem dd182_25 : decode cX13_deeper 25 = .ok (.aload_n 0, 1) := by decide +kernel
theorem dd182_26 : decode cX13_deeper 26 = .ok (.dup, 1) := by decide +kernel
theorem dd182_27 : decode cX13_deeper 27 = .ok (.getfield 243, 3) := by decide +kernel
theorem dd182_30 : decode cX13_deeper 30 = .ok (.iconst 1, 1) := by decide +kernel
theorem dd182_31 : decode cX13_deeper 31 = .ok (.iadd, 1) := by decide +kernel
theorem dd182_32 : decode cX13_deeper 32 = .ok (.putfield 243, 3) := by decide +kernel
theorem dd182_35 : decode cX13_deeper 35 = .ok (.return_, 1) := by decide +kernel
def f182_25 (n : Nat) (s : zσ) : Option zσ :=
    zlet (sI s 1132 14 ((s.1 1132 14) + (1 : Int32))) fun u1 =>
    some u1
set_option maxRecDepth 20000 in
theorem f182_25_ok {n d : Nat} {s : zσ} {s2 : zσ} (hd : 1 ≤ d) (h : f182_25 n s = some s2) {w : zσ} {fz : Bool} {L : Nat} {xs : Nat → Int32} : zGo (zX fz L xs) d q_182 (25, [(0, .ref 1132)], [], zmk w s, 0, 0) (none, zmk w s2, 0, 0) := by
  obtain ⟨d, rfl⟩ : ∃ d0, d = d0 + 1 := ⟨d - 1, by omega⟩
  unfold f182_25 at h
  refine zGo_s (pc' := 26) (st' := [.ref 1132]) dd182_25 rfl ?_
  refine zGo_s (pc' := 27) (st' := [.ref 1132, .ref 1132]) dd182_26 rfl ?_
  refine mGI dd182_27 rfl rfl rfl rfl ?_
  refine zGo_s (pc' := 31) (st' := [.int (1 : Int32), .int (s.1 1132 14), .ref 1132]) dd182_30 rfl ?_
  refine zGo_s (pc' := 32) (st' := [.int ((s.1 1132 14) + (1 : Int32)), .ref 1132]) dd182_31 rfl ?_
  obtain ⟨u1, e_u1, h⟩ := olet h
  refine mPI dd182_32 rfl rfl rfl rfl rfl rfl e_u1 ?_
  obtain rfl := ore0 h
  exact zGo_ret dd182_35 rfl rfl
def f182 (n : Nat) (s : zσ) : Option zσ :=
    yb1 (f167 n s) fun v2 u1 =>
    if v2 = (0 : Int32) then
    f182_25 n u1
    else if (u1.1 1132 14) = (12 : Int32) then
    yb0 (f173 n (3 : Int32) (u1.1 1132 4) u1) fun u3 =>
    f182_25 n u3
    else f182_25 n u1
set_option maxRecDepth 20000 in
theorem f182_ok {n d : Nat} {s : zσ} {s2 : zσ} (hd : 1 ≤ d) (h : f182 n s = some s2) {w : zσ} {fz : Bool} {L : Nat} {xs : Nat → Int32} : zGo (zX fz L xs) d q_182 (0, [(0, .ref 1132)], [], zmk w s, 0, 0) (none, zmk w s2, 0, 0) := by
  obtain ⟨d, rfl⟩ : ∃ d0, d = d0 + 1 := ⟨d - 1, by omega⟩
  unfold f182 at h
  refine zGo_s (pc' := 1) (st' := [.ref 1132]) dd182_0 rfl ?_
  obtain ⟨v2, u1, hq, h⟩ := obnd h
  refine zCV1 (As := []) (rest := []) (b := 1132) (q' := q_167) dd182_1 rfl rfl (rcv_m rfl rfl (by decide)) rfl rfl rfl (f167_ok (d := d) (by omega)  hq) ?_
  rcases oite h with ⟨hc, h⟩ | ⟨hc, h⟩
  · refine zUT dd182_4 rfl (kEqT hc) ?_
    exact f182_25_ok hd h
  · refine zUF dd182_4 (kEqF hc) ?_
    refine zGo_s (pc' := 8) (st' := [.ref 1132]) dd182_7 rfl ?_
    refine mGI dd182_8 rfl rfl rfl rfl ?_
    refine zGo_s (pc' := 13) (st' := [.int (12 : Int32), .int (u1.1 1132 14)]) dd182_11 rfl ?_
    rcases oite h with ⟨hc, h⟩ | ⟨hc, h⟩
    · refine zIF dd182_13 (kNeF hc) ?_
      refine zGo_s (pc' := 17) (st' := [.ref 1132]) dd182_16 rfl ?_
      refine zGo_s (pc' := 18) (st' := [.int (3 : Int32), .ref 1132]) dd182_17 rfl ?_
      refine zGo_s (pc' := 19) (st' := [.ref 1132, .int (3 : Int32), .ref 1132]) dd182_18 rfl ?_
      refine mGI dd182_19 rfl rfl rfl rfl ?_
      obtain ⟨u3, hq, h⟩ := obn0 h
      refine zCV0 (As := [.int (3 : Int32), .int (u1.1 1132 4)]) (rest := []) (b := 1132) (q' := q_173) dd182_22 rfl rfl (rcv_m rfl rfl (by decide)) rfl rfl rfl (f173_ok (d := d) (by omega)  hq) ?_
      exact f182_25_ok hd h
    · refine zIT dd182_13 rfl (kNeT hc) ?_
      exact f182_25_ok hd h
/-! PHModel.reaction(I)V -/
theorem dd183_0 : decode cX13_reaction 0 = .ok (.iconst 0, 1) := by decide +kernel
theorem dd183_1 : decode cX13_reaction 1 = .ok (.istore_n 2, 1) := by decide +kernel
theorem dd183_2 : decode cX13_reaction 2 = .ok (.aload_n 0, 1) := by decide +kernel
theorem dd183_3 : decode cX13_reaction 3 = .ok (.ldc_w 365, 3) := by decide +kernel
theorem dd183_6 : decode cX13_reaction 6 = .ok (.invokevirtual 328, 3) := by decide +kernel
theorem dd183_9 : decode cX13_reaction 9 = .ok (.ifCond .eq 8, 3) := by decide +kernel
theorem dd183_12 : decode cX13_reaction 12 = .ok (.iconst 0, 1) := by decide +kernel
theorem dd183_13 : decode cX13_reaction 13 = .ok (.istore_n 2, 1) := by decide +kernel
theorem dd183_14 : decode cX13_reaction 14 = .ok (.goto 42, 3) := by decide +kernel
theorem dd183_17 : decode cX13_reaction 17 = .ok (.aload_n 0, 1) := by decide +kernel
theorem dd183_18 : decode cX13_reaction 18 = .ok (.getfield 179, 3) := by decide +kernel
theorem dd183_21 : decode cX13_reaction 21 = .ok (.iconst 2, 1) := by decide +kernel
theorem dd183_22 : decode cX13_reaction 22 = .ok (.if_icmp .ne 29, 3) := by decide +kernel
theorem dd183_25 : decode cX13_reaction 25 = .ok (.aload_n 0, 1) := by decide +kernel
theorem dd183_26 : decode cX13_reaction 26 = .ok (.getfield 193, 3) := by decide +kernel
theorem dd183_29 : decode cX13_reaction 29 = .ok (.istore_n 2, 1) := by decide +kernel
theorem dd183_30 : decode cX13_reaction 30 = .ok (.iload_n 2, 1) := by decide +kernel
theorem dd183_31 : decode cX13_reaction 31 = .ok (.iconst 1, 1) := by decide +kernel
theorem dd183_32 : decode cX13_reaction 32 = .ok (.if_icmp .lt 9, 3) := by decide +kernel
theorem dd183_35 : decode cX13_reaction 35 = .ok (.iload_n 2, 1) := by decide +kernel
theorem dd183_36 : decode cX13_reaction 36 = .ok (.bipush 19, 2) := by decide +kernel
theorem dd183_38 : decode cX13_reaction 38 = .ok (.if_icmp .le 18, 3) := by decide +kernel
theorem dd183_41 : decode cX13_reaction 41 = .ok (.aload_n 0, 1) := by decide +kernel
theorem dd183_42 : decode cX13_reaction 42 = .ok (.iconst 5, 1) := by decide +kernel
theorem dd183_43 : decode cX13_reaction 43 = .ok (.aload_n 0, 1) := by decide +kernel
theorem dd183_44 : decode cX13_reaction 44 = .ok (.getfield 176, 3) := by decide +kernel
theorem dd183_47 : decode cX13_reaction 47 = .ok (.invokevirtual 215, 3) := by decide +kernel
theorem dd183_50 : decode cX13_reaction 50 = .ok (.return_, 1) := by decide +kernel
theorem dd183_51 : decode cX13_reaction 51 = .ok (.aload_n 0, 1) := by decide +kernel
theorem dd183_52 : decode cX13_reaction 52 = .ok (.invokevirtual 234, 3) := by decide +kernel
theorem dd183_55 : decode cX13_reaction 55 = .ok (.return_, 1) := by decide +kernel
theorem dd183_56 : decode cX13_reaction 56 = .ok (.aload_n 0, 1) := by decide +kernel
theorem dd183_57 : decode cX13_reaction 57 = .ok (.getfield 24, 3) := by decide +kernel
theorem dd183_60 : decode cX13_reaction 60 = .ok (.getfield 351, 3) := by decide +kernel
theorem dd183_63 : decode cX13_reaction 63 = .ok (.bipush 20, 2) := by decide +kernel
theorem dd183_65 : decode cX13_reaction 65 = .ok (.iload_n 1, 1) := by decide +kernel
theorem dd183_66 : decode cX13_reaction 66 = .ok (.imul, 1) := by decide +kernel
theorem dd183_67 : decode cX13_reaction 67 = .ok (.iload_n 2, 1) := by decide +kernel
theorem dd183_68 : decode cX13_reaction 68 = .ok (.iadd, 1) := by decide +kernel
theorem dd183_69 : decode cX13_reaction 69 = .ok (.iaload, 1) := by decide +kernel
theorem dd183_70 : decode cX13_reaction 70 = .ok (.iconst (-1), 1) := by decide +kernel
theorem dd183_71 : decode cX13_reaction 71 = .ok (.if_icmp .eq 13, 3) := by decide +kernel
theorem dd183_74 : decode cX13_reaction 74 = .ok (.aload_n 0, 1) := by decide +kernel
theorem dd183_75 : decode cX13_reaction 75 = .ok (.iconst 5, 1) := by decide +kernel
theorem dd183_76 : decode cX13_reaction 76 = .ok (.aload_n 0, 1) := by decide +kernel
theorem dd183_77 : decode cX13_reaction 77 = .ok (.getfield 176, 3) := by decide +kernel
theorem dd183_80 : decode cX13_reaction 80 = .ok (.invokevirtual 215, 3) := by decide +kernel
theorem dd183_83 : decode cX13_reaction 83 = .ok (.return_, 1) := by decide +kernel
theorem dd183_84 : decode cX13_reaction 84 = .ok (.aload_n 0, 1) := by decide +kernel
theorem dd183_85 : decode cX13_reaction 85 = .ok (.invokevirtual 231, 3) := by decide +kernel
theorem dd183_88 : decode cX13_reaction 88 = .ok (.aload_n 0, 1) := by decide +kernel
theorem dd183_89 : decode cX13_reaction 89 = .ok (.getfield 24, 3) := by decide +kernel
theorem dd183_92 : decode cX13_reaction 92 = .ok (.getfield 351, 3) := by decide +kernel
theorem dd183_95 : decode cX13_reaction 95 = .ok (.bipush 20, 2) := by decide +kernel
theorem dd183_97 : decode cX13_reaction 97 = .ok (.iload_n 1, 1) := by decide +kernel
theorem dd183_98 : decode cX13_reaction 98 = .ok (.imul, 1) := by decide +kernel
theorem dd183_99 : decode cX13_reaction 99 = .ok (.iload_n 2, 1) := by decide +kernel
theorem dd183_100 : decode cX13_reaction 100 = .ok (.iadd, 1) := by decide +kernel
theorem dd183_101 : decode cX13_reaction 101 = .ok (.iconst 0, 1) := by decide +kernel
theorem dd183_102 : decode cX13_reaction 102 = .ok (.iastore, 1) := by decide +kernel
theorem dd183_103 : decode cX13_reaction 103 = .ok (.aload_n 0, 1) := by decide +kernel
theorem dd183_104 : decode cX13_reaction 104 = .ok (.invokevirtual 367, 3) := by decide +kernel
theorem dd183_107 : decode cX13_reaction 107 = .ok (.istore_n 3, 1) := by decide +kernel
theorem dd183_108 : decode cX13_reaction 108 = .ok (.aload_n 0, 1) := by decide +kernel
theorem dd183_109 : decode cX13_reaction 109 = .ok (.getfield 24, 3) := by decide +kernel
theorem dd183_112 : decode cX13_reaction 112 = .ok (.getfield 351, 3) := by decide +kernel
theorem dd183_115 : decode cX13_reaction 115 = .ok (.bipush 20, 2) := by decide +kernel
theorem dd183_117 : decode cX13_reaction 117 = .ok (.iload_n 1, 1) := by decide +kernel
theorem dd183_118 : decode cX13_reaction 118 = .ok (.imul, 1) := by decide +kernel
theorem dd183_119 : decode cX13_reaction 119 = .ok (.iload_n 2, 1) := by decide +kernel
theorem dd183_120 : decode cX13_reaction 120 = .ok (.iadd, 1) := by decide +kernel
theorem dd183_121 : decode cX13_reaction 121 = .ok (.iload_n 3, 1) := by decide +kernel
theorem dd183_122 : decode cX13_reaction 122 = .ok (.iastore, 1) := by decide +kernel
theorem dd183_123 : decode cX13_reaction 123 = .ok (.return_, 1) := by decide +kernel
def f183_56 (n : Nat) (g : zσ → Option (Int32 × zσ)) (x1 : Int32) (x2 : Int32) (s : zσ) : Option zσ :=
    zrd 12 (s.2.2 1132 12) fun a1 =>
    if zin? (((20 : Int32) * x1) + x2) 40000 = true then
    if (s.1 (a1 + 14) (nx (((20 : Int32) * x1) + x2))) = (-1 : Int32) then
    yb0 (f164 n s) fun u2 =>
    zrd 12 (u2.2.2 1132 12) fun a3 =>
    if zin? (((20 : Int32) * x1) + x2) 40000 = true then
    zlet (sI u2 (a3 + 14) (nx (((20 : Int32) * x1) + x2)) (0 : Int32)) fun u4 =>
    yb1 (g u4) fun v6 u5 =>
    zrd 12 (u5.2.2 1132 12) fun a7 =>
    if zin? (((20 : Int32) * x1) + x2) 40000 = true then
    zlet (sI u5 (a7 + 14) (nx (((20 : Int32) * x1) + x2)) v6) fun u8 =>
    some u8
    else none
    else none
    else yb0 (f173 n (5 : Int32) (s.1 1132 4) s) fun u9 =>
    some u9
    else none
set_option maxRecDepth 20000 in
theorem f183_56_ok {n d : Nat} {Df : Nat} {g : zσ → Option (Int32 × zσ)} {x1 : Int32} {x2 : Int32} {s : zσ} {s2 : zσ} (hd : Df + 1 ≤ d ∧ 140 ≤ Df) (hg : ∀ (s : zσ) (v : Int32) (s2 : zσ), g s = some (v, s2) → ∀ {d : Nat}, Df ≤ d → ∀ {w : zσ} {fz : Bool} {L : Nat} {xs : Nat → Int32}, zGo (zX fz L xs) d q_181 (0, [(0, .ref 1132)], [], zmk w s, 0, 0) (some (.int v), zmk w s2, 0, 0)) (h : f183_56 n g x1 x2 s = some s2) {w : zσ} {fz : Bool} {L : Nat} {xs : Nat → Int32} : zGo (zX fz L xs) d q_183 (56, [(0, .ref 1132), (1, .int x1), (2, .int x2)], [], zmk w s, 0, 0) (none, zmk w s2, 0, 0) := by
  obtain ⟨d, rfl⟩ : ∃ d0, d = d0 + 1 := ⟨d - 1, by omega⟩
  unfold f183_56 at h
  refine zGo_s (pc' := 57) (st' := [.ref 1132]) dd183_56 rfl ?_
  obtain ⟨a1, e_a1, c_a1, h⟩ := ordd h
  refine mGR dd183_57 rfl rfl rfl rfl e_a1 ?_
  refine mGF (e := (a1 + 14)) dd183_60 rfl (ck12_s c_a1).1 (ck12_s c_a1).2 rfl (cf12_15 c_a1).1 ?_
  refine zGo_s (pc' := 65) (st' := [.int (20 : Int32), .ref (a1 + 14)]) dd183_63 rfl ?_
  refine zGo_s (pc' := 66) (st' := [.int x1, .int (20 : Int32), .ref (a1 + 14)]) dd183_65 rfl ?_
  refine zGo_s (pc' := 67) (st' := [.int ((20 : Int32) * x1), .ref (a1 + 14)]) dd183_66 rfl ?_
  refine zGo_s (pc' := 68) (st' := [.int x2, .int ((20 : Int32) * x1), .ref (a1 + 14)]) dd183_67 rfl ?_
  refine zGo_s (pc' := 69) (st' := [.int (((20 : Int32) * x1) + x2), .ref (a1 + 14)]) dd183_68 rfl ?_
  obtain ⟨hi, h⟩ := ochk h
  refine mIA dd183_69 (cf12_15 c_a1).2.1 (cf12_15 c_a1).2.2 hi ?_
  refine zGo_s (pc' := 71) (st' := [.int (-1 : Int32), .int (s.1 (a1 + 14) (nx (((20 : Int32) * x1) + x2)))]) dd183_70 rfl ?_
  rcases oite h with ⟨hc, h⟩ | ⟨hc, h⟩
  · refine zIT dd183_71 rfl (kEqT hc) ?_
    refine zGo_s (pc' := 85) (st' := [.ref 1132]) dd183_84 rfl ?_
    obtain ⟨u2, hq, h⟩ := obn0 h
    refine zCV0 (As := []) (rest := []) (b := 1132) (q' := q_164) dd183_85 rfl rfl (rcv_m rfl rfl (by decide)) rfl rfl rfl (f164_ok (d := d) (by omega)  hq) ?_
    refine zGo_s (pc' := 89) (st' := [.ref 1132]) dd183_88 rfl ?_
    obtain ⟨a3, e_a3, c_a3, h⟩ := ordd h
    refine mGR dd183_89 rfl rfl rfl rfl e_a3 ?_
    refine mGF (e := (a3 + 14)) dd183_92 rfl (ck12_s c_a3).1 (ck12_s c_a3).2 rfl (cf12_15 c_a3).1 ?_
    refine zGo_s (pc' := 97) (st' := [.int (20 : Int32), .ref (a3 + 14)]) dd183_95 rfl ?_
    refine zGo_s (pc' := 98) (st' := [.int x1, .int (20 : Int32), .ref (a3 + 14)]) dd183_97 rfl ?_
    refine zGo_s (pc' := 99) (st' := [.int ((20 : Int32) * x1), .ref (a3 + 14)]) dd183_98 rfl ?_
    refine zGo_s (pc' := 100) (st' := [.int x2, .int ((20 : Int32) * x1), .ref (a3 + 14)]) dd183_99 rfl ?_
    refine zGo_s (pc' := 101) (st' := [.int (((20 : Int32) * x1) + x2), .ref (a3 + 14)]) dd183_100 rfl ?_
    refine zGo_s (pc' := 102) (st' := [.int (0 : Int32), .int (((20 : Int32) * x1) + x2), .ref (a3 + 14)]) dd183_101 rfl ?_
    obtain ⟨hi, h⟩ := ochk h
    obtain ⟨u4, e_u4, h⟩ := olet h
    refine mIS dd183_102 (cf12_15 c_a3).2.1 (cf12_15 c_a3).2.2 hi e_u4 ?_
    refine zGo_s (pc' := 104) (st' := [.ref 1132]) dd183_103 rfl ?_
    obtain ⟨v6, u5, hq, h⟩ := obnd h
    refine zCV1 (As := []) (rest := []) (b := 1132) (q' := q_181) dd183_104 rfl rfl (rcv_m rfl rfl (by decide)) rfl rfl rfl (hg _ _ _  hq (by omega)) ?_
    refine zGo_s (pc' := 108) (st' := []) (lv' := [(3, .int v6), (0, .ref 1132), (1, .int x1), (2, .int x2)]) dd183_107 rfl ?_
    refine zGo_s (pc' := 109) (st' := [.ref 1132]) dd183_108 rfl ?_
    obtain ⟨a7, e_a7, c_a7, h⟩ := ordd h
    refine mGR dd183_109 rfl rfl rfl rfl e_a7 ?_
    refine mGF (e := (a7 + 14)) dd183_112 rfl (ck12_s c_a7).1 (ck12_s c_a7).2 rfl (cf12_15 c_a7).1 ?_
    refine zGo_s (pc' := 117) (st' := [.int (20 : Int32), .ref (a7 + 14)]) dd183_115 rfl ?_
    refine zGo_s (pc' := 118) (st' := [.int x1, .int (20 : Int32), .ref (a7 + 14)]) dd183_117 rfl ?_
    refine zGo_s (pc' := 119) (st' := [.int ((20 : Int32) * x1), .ref (a7 + 14)]) dd183_118 rfl ?_
    refine zGo_s (pc' := 120) (st' := [.int x2, .int ((20 : Int32) * x1), .ref (a7 + 14)]) dd183_119 rfl ?_
    refine zGo_s (pc' := 121) (st' := [.int (((20 : Int32) * x1) + x2), .ref (a7 + 14)]) dd183_120 rfl ?_
    refine zGo_s (pc' := 122) (st' := [.int v6, .int (((20 : Int32) * x1) + x2), .ref (a7 + 14)]) dd183_121 rfl ?_
    obtain ⟨hi, h⟩ := ochk h
    obtain ⟨u8, e_u8, h⟩ := olet h
    refine mIS dd183_122 (cf12_15 c_a7).2.1 (cf12_15 c_a7).2.2 hi e_u8 ?_
    obtain rfl := ore0 h
    exact zGo_ret dd183_123 rfl rfl
  · refine zIF dd183_71 (kEqF hc) ?_
    refine zGo_s (pc' := 75) (st' := [.ref 1132]) dd183_74 rfl ?_
    refine zGo_s (pc' := 76) (st' := [.int (5 : Int32), .ref 1132]) dd183_75 rfl ?_
    refine zGo_s (pc' := 77) (st' := [.ref 1132, .int (5 : Int32), .ref 1132]) dd183_76 rfl ?_
    refine mGI dd183_77 rfl rfl rfl rfl ?_
    obtain ⟨u9, hq, h⟩ := obn0 h
    refine zCV0 (As := [.int (5 : Int32), .int (s.1 1132 4)]) (rest := []) (b := 1132) (q' := q_173) dd183_80 rfl rfl (rcv_m rfl rfl (by decide)) rfl rfl rfl (f173_ok (d := d) (by omega)  hq) ?_
    obtain rfl := ore0 h
    exact zGo_ret dd183_83 rfl rfl
def f183_41 (n : Nat) (g : zσ → Option (Int32 × zσ)) (s : zσ) : Option zσ :=
    yb0 (f173 n (5 : Int32) (s.1 1132 4) s) fun u1 =>
    some u1
set_option maxRecDepth 20000 in
theorem f183_41_ok {n d : Nat} {Df : Nat} {g : zσ → Option (Int32 × zσ)} {s : zσ} {s2 : zσ} (hd : Df + 1 ≤ d ∧ 140 ≤ Df) (hg : ∀ (s : zσ) (v : Int32) (s2 : zσ), g s = some (v, s2) → ∀ {d : Nat}, Df ≤ d → ∀ {w : zσ} {fz : Bool} {L : Nat} {xs : Nat → Int32}, zGo (zX fz L xs) d q_181 (0, [(0, .ref 1132)], [], zmk w s, 0, 0) (some (.int v), zmk w s2, 0, 0)) (h : f183_41 n g s = some s2) {w : zσ} {fz : Bool} {L : Nat} {xs : Nat → Int32} : zGo (zX fz L xs) d q_183 (41, [(0, .ref 1132)], [], zmk w s, 0, 0) (none, zmk w s2, 0, 0) := by
  obtain ⟨d, rfl⟩ : ∃ d0, d = d0 + 1 := ⟨d - 1, by omega⟩
  unfold f183_41 at h
  refine zGo_s (pc' := 42) (st' := [.ref 1132]) dd183_41 rfl ?_
  refine zGo_s (pc' := 43) (st' := [.int (5 : Int32), .ref 1132]) dd183_42 rfl ?_
  refine zGo_s (pc' := 44) (st' := [.ref 1132, .int (5 : Int32), .ref 1132]) dd183_43 rfl ?_
  refine mGI dd183_44 rfl rfl rfl rfl ?_
  obtain ⟨u1, hq, h⟩ := obn0 h
  refine zCV0 (As := [.int (5 : Int32), .int (s.1 1132 4)]) (rest := []) (b := 1132) (q' := q_173) dd183_47 rfl rfl (rcv_m rfl rfl (by decide)) rfl rfl rfl (f173_ok (d := d) (by omega)  hq) ?_
  obtain rfl := ore0 h
  exact zGo_ret dd183_50 rfl rfl
def f183 (n : Nat) (g : zσ → Option (Int32 × zσ)) (x1 : Int32) (s : zσ) : Option zσ :=
    yb1 (f170 n 14 s) fun v2 u1 =>
    if v2 = (0 : Int32) then
    if (u1.1 1132 3) = (2 : Int32) then
    zlet ((u1.1 1132 7)) fun v4 =>
    if v4 < (1 : Int32) then
    f183_41 n g u1
    else if (19 : Int32) < v4 then
    f183_41 n g u1
    else f183_56 n g x1 v4 u1
    else yb0 (f172 n u1) fun u3 =>
    some u3
    else f183_56 n g x1 (0 : Int32) u1
set_option maxRecDepth 20000 in
theorem f183_ok {n d : Nat} {Df : Nat} {g : zσ → Option (Int32 × zσ)} {x1 : Int32} {s : zσ} {s2 : zσ} (hd : Df + 1 ≤ d ∧ 140 ≤ Df) (hg : ∀ (s : zσ) (v : Int32) (s2 : zσ), g s = some (v, s2) → ∀ {d : Nat}, Df ≤ d → ∀ {w : zσ} {fz : Bool} {L : Nat} {xs : Nat → Int32}, zGo (zX fz L xs) d q_181 (0, [(0, .ref 1132)], [], zmk w s, 0, 0) (some (.int v), zmk w s2, 0, 0)) (h : f183 n g x1 s = some s2) {w : zσ} {fz : Bool} {L : Nat} {xs : Nat → Int32} : zGo (zX fz L xs) d q_183 (0, [(0, .ref 1132), (1, .int x1)], [], zmk w s, 0, 0) (none, zmk w s2, 0, 0) := by
  obtain ⟨d, rfl⟩ : ∃ d0, d = d0 + 1 := ⟨d - 1, by omega⟩
  unfold f183 at h
  refine zGo_s (pc' := 1) (st' := [.int (0 : Int32)]) dd183_0 rfl ?_
  refine zGo_s (pc' := 2) (st' := []) (lv' := [(2, .int (0 : Int32)), (0, .ref 1132), (1, .int x1)]) dd183_1 rfl ?_
  refine zGo_s (pc' := 3) (st' := [.ref 1132]) dd183_2 rfl ?_
  refine zGo_s (pc' := 6) (st' := [.ref 14, .ref 1132]) dd183_3 rfl ?_
  obtain ⟨v2, u1, hq, h⟩ := obnd h
  refine zCV1 (As := [.ref 14]) (rest := []) (b := 1132) (q' := q_170) dd183_6 rfl rfl (rcv_m rfl rfl (by decide)) rfl rfl rfl (f170_ok (d := d) (by omega) (by decide) hq) ?_
  rcases oite h with ⟨hc, h⟩ | ⟨hc, h⟩
  · refine zUT dd183_9 rfl (kEqT hc) ?_
    refine zGo_s (pc' := 18) (st' := [.ref 1132]) dd183_17 rfl ?_
    refine mGI dd183_18 rfl rfl rfl rfl ?_
    refine zGo_s (pc' := 22) (st' := [.int (2 : Int32), .int (u1.1 1132 3)]) dd183_21 rfl ?_
    rcases oite h with ⟨hc, h⟩ | ⟨hc, h⟩
    · refine zIF dd183_22 (kNeF hc) ?_
      refine zGo_s (pc' := 26) (st' := [.ref 1132]) dd183_25 rfl ?_
      refine mGI dd183_26 rfl rfl rfl rfl ?_
      obtain ⟨v4, e_v4, h⟩ := olet h
      refine zGo_is1 e_v4 dd183_29 (x' := (30, [(2, .int v4), (0, .ref 1132), (1, .int x1)], [], _, _, _)) rfl ?_
      refine zGo_s (pc' := 31) (st' := [.int v4]) dd183_30 rfl ?_
      refine zGo_s (pc' := 32) (st' := [.int (1 : Int32), .int v4]) dd183_31 rfl ?_
      rcases oite h with ⟨hc, h⟩ | ⟨hc, h⟩
      · refine zIT dd183_32 rfl (kLtT hc) ?_
        exact zGo_lv (lv := [(0, .ref 1132)]) ⟨by simp, by simp, by simp⟩ (f183_41_ok hd hg h)
      · refine zIF dd183_32 (kLtF hc) ?_
        refine zGo_s (pc' := 36) (st' := [.int v4]) dd183_35 rfl ?_
        refine zGo_s (pc' := 38) (st' := [.int (19 : Int32), .int v4]) dd183_36 rfl ?_
        rcases oite h with ⟨hc, h⟩ | ⟨hc, h⟩
        · refine zIF dd183_38 (kLeF hc) ?_
          exact zGo_lv (lv := [(0, .ref 1132)]) ⟨by simp, by simp, by simp⟩ (f183_41_ok hd hg h)
        · refine zIT dd183_38 rfl (kLeT hc) ?_
          exact zGo_lv (lv := [(0, .ref 1132), (1, .int x1), (2, .int v4)]) ⟨by simp, by simp, by simp⟩ (f183_56_ok hd hg h)
    · refine zIT dd183_22 rfl (kNeT hc) ?_
      refine zGo_s (pc' := 52) (st' := [.ref 1132]) dd183_51 rfl ?_
      obtain ⟨u3, hq, h⟩ := obn0 h
      refine zCV0 (As := []) (rest := []) (b := 1132) (q' := q_172) dd183_52 rfl rfl (rcv_m rfl rfl (by decide)) rfl rfl rfl (f172_ok (d := d) (by omega)  hq) ?_
      obtain rfl := ore0 h
      exact zGo_ret dd183_55 rfl rfl
  · refine zUF dd183_9 (kEqF hc) ?_
    refine zGo_s (pc' := 13) (st' := [.int (0 : Int32)]) dd183_12 rfl ?_
    refine zGo_s (pc' := 14) (st' := []) (lv' := [(2, .int (0 : Int32)), (0, .ref 1132), (1, .int x1)]) dd183_13 rfl ?_
    refine zGo_s (pc' := 56) (st' := []) dd183_14 rfl ?_
    exact zGo_lv (lv := [(0, .ref 1132), (1, .int x1), (2, .int (0 : Int32))]) ⟨by simp, by simp, by simp⟩ (f183_56_ok hd hg h)
/-! PHModel.whenOf()I -/
theorem dd185_0 : decode cX13_whenOf 0 = .ok (.aload_n 0, 1) := by decide +kernel
theorem dd185_1 : decode cX13_whenOf 1 = .ok (.ldc_w 425, 3) := by decide +kernel
theorem dd185_4 : decode cX13_whenOf 4 = .ok (.invokevirtual 328, 3) := by decide +kernel
theorem dd185_7 : decode cX13_whenOf 7 = .ok (.ifCond .eq 7, 3) := by decide +kernel
theorem dd185_10 : decode cX13_whenOf 10 = .ok (.iconst 1, 1) := by decide +kernel
theorem dd185_11 : decode cX13_whenOf 11 = .ok (.goto 46, 3) := by decide +kernel
theorem dd185_14 : decode cX13_whenOf 14 = .ok (.aload_n 0, 1) := by decide +kernel
theorem dd185_15 : decode cX13_whenOf 15 = .ok (.ldc_w 426, 3) := by decide +kernel
theorem dd185_18 : decode cX13_whenOf 18 = .ok (.invokevirtual 328, 3) := by decide +kernel
theorem dd185_21 : decode cX13_whenOf 21 = .ok (.ifCond .eq 7, 3) := by decide +kernel
theorem dd185_24 : decode cX13_whenOf 24 = .ok (.iconst 2, 1) := by decide +kernel
theorem dd185_25 : decode cX13_whenOf 25 = .ok (.goto 32, 3) := by decide +kernel
theorem dd185_28 : decode cX13_whenOf 28 = .ok (.aload_n 0, 1) := by decide +kernel
theorem dd185_29 : decode cX13_whenOf 29 = .ok (.ldc_w 428, 3) := by decide +kernel
theorem dd185_32 : decode cX13_whenOf 32 = .ok (.invokevirtual 328, 3) := by decide +kernel
theorem dd185_35 : decode cX13_whenOf 35 = .ok (.ifCond .eq 7, 3) := by decide +kernel
theorem dd185_38 : decode cX13_whenOf 38 = .ok (.iconst 3, 1) := by decide +kernel
theorem dd185_39 : decode cX13_whenOf 39 = .ok (.goto 18, 3) := by decide +kernel
theorem dd185_42 : decode cX13_whenOf 42 = .ok (.aload_n 0, 1) := by decide +kernel
theorem dd185_43 : decode cX13_whenOf 43 = .ok (.ldc_w 430, 3) := by decide +kernel
theorem dd185_46 : decode cX13_whenOf 46 = .ok (.invokevirtual 328, 3) := by decide +kernel
theorem dd185_49 : decode cX13_whenOf 49 = .ok (.ifCond .eq 7, 3) := by decide +kernel
theorem dd185_52 : decode cX13_whenOf 52 = .ok (.iconst 4, 1) := by decide +kernel
theorem dd185_53 : decode cX13_whenOf 53 = .ok (.goto 4, 3) := by decide +kernel
theorem dd185_56 : decode cX13_whenOf 56 = .ok (.iconst 0, 1) := by decide +kernel
theorem dd185_57 : decode cX13_whenOf 57 = .ok (.ireturn, 1) := by decide +kernel
def f185 (n : Nat) (s : zσ) : Option (Int32 × zσ) :=
    yb1 (f170 n 15 s) fun v2 u1 =>
    if v2 = (0 : Int32) then
    yb1 (f170 n 16 u1) fun v4 u3 =>
    if v4 = (0 : Int32) then
    yb1 (f170 n 17 u3) fun v6 u5 =>
    if v6 = (0 : Int32) then
    yb1 (f170 n 18 u5) fun v8 u7 =>
    if v8 = (0 : Int32) then
    some ((0 : Int32), u7)
    else some ((4 : Int32), u7)
    else some ((3 : Int32), u5)
    else some ((2 : Int32), u3)
    else some ((1 : Int32), u1)
set_option maxRecDepth 20000 in
theorem f185_ok {n d : Nat} {s : zσ} {v : Int32} {s2 : zσ} (hd : 6 ≤ d) (h : f185 n s = some (v, s2)) {w : zσ} {fz : Bool} {L : Nat} {xs : Nat → Int32} : zGo (zX fz L xs) d q_185 (0, [(0, .ref 1132)], [], zmk w s, 0, 0) (some (.int v), zmk w s2, 0, 0) := by
  obtain ⟨d, rfl⟩ : ∃ d0, d = d0 + 1 := ⟨d - 1, by omega⟩
  unfold f185 at h
  refine zGo_s (pc' := 1) (st' := [.ref 1132]) dd185_0 rfl ?_
  refine zGo_s (pc' := 4) (st' := [.ref 15, .ref 1132]) dd185_1 rfl ?_
  obtain ⟨v2, u1, hq, h⟩ := obnd h
  refine zCV1 (As := [.ref 15]) (rest := []) (b := 1132) (q' := q_170) dd185_4 rfl rfl (rcv_m rfl rfl (by decide)) rfl rfl rfl (f170_ok (d := d) (by omega) (by decide) hq) ?_
  rcases oite h with ⟨hc, h⟩ | ⟨hc, h⟩
  · refine zUT dd185_7 rfl (kEqT hc) ?_
    refine zGo_s (pc' := 15) (st' := [.ref 1132]) dd185_14 rfl ?_
    refine zGo_s (pc' := 18) (st' := [.ref 16, .ref 1132]) dd185_15 rfl ?_
    obtain ⟨v4, u3, hq, h⟩ := obnd h
    refine zCV1 (As := [.ref 16]) (rest := []) (b := 1132) (q' := q_170) dd185_18 rfl rfl (rcv_m rfl rfl (by decide)) rfl rfl rfl (f170_ok (d := d) (by omega) (by decide) hq) ?_
    rcases oite h with ⟨hc, h⟩ | ⟨hc, h⟩
    · refine zUT dd185_21 rfl (kEqT hc) ?_
      refine zGo_s (pc' := 29) (st' := [.ref 1132]) dd185_28 rfl ?_
      refine zGo_s (pc' := 32) (st' := [.ref 17, .ref 1132]) dd185_29 rfl ?_
      obtain ⟨v6, u5, hq, h⟩ := obnd h
      refine zCV1 (As := [.ref 17]) (rest := []) (b := 1132) (q' := q_170) dd185_32 rfl rfl (rcv_m rfl rfl (by decide)) rfl rfl rfl (f170_ok (d := d) (by omega) (by decide) hq) ?_
      rcases oite h with ⟨hc, h⟩ | ⟨hc, h⟩
      · refine zUT dd185_35 rfl (kEqT hc) ?_
        refine zGo_s (pc' := 43) (st' := [.ref 1132]) dd185_42 rfl ?_
        refine zGo_s (pc' := 46) (st' := [.ref 18, .ref 1132]) dd185_43 rfl ?_
        obtain ⟨v8, u7, hq, h⟩ := obnd h
        refine zCV1 (As := [.ref 18]) (rest := []) (b := 1132) (q' := q_170) dd185_46 rfl rfl (rcv_m rfl rfl (by decide)) rfl rfl rfl (f170_ok (d := d) (by omega) (by decide) hq) ?_
        rcases oite h with ⟨hc, h⟩ | ⟨hc, h⟩
        · refine zUT dd185_49 rfl (kEqT hc) ?_
          refine zGo_s (pc' := 57) (st' := [.int (0 : Int32)]) dd185_56 rfl ?_
          obtain ⟨rfl, rfl⟩ := oret h
          exact zGo_ret dd185_57 rfl rfl
        · refine zUF dd185_49 (kEqF hc) ?_
          refine zGo_s (pc' := 53) (st' := [.int (4 : Int32)]) dd185_52 rfl ?_
          refine zGo_s (pc' := 57) (st' := [.int (4 : Int32)]) dd185_53 rfl ?_
          obtain ⟨rfl, rfl⟩ := oret h
          exact zGo_ret dd185_57 rfl rfl
      · refine zUF dd185_35 (kEqF hc) ?_
        refine zGo_s (pc' := 39) (st' := [.int (3 : Int32)]) dd185_38 rfl ?_
        refine zGo_s (pc' := 57) (st' := [.int (3 : Int32)]) dd185_39 rfl ?_
        obtain ⟨rfl, rfl⟩ := oret h
        exact zGo_ret dd185_57 rfl rfl
    · refine zUF dd185_21 (kEqF hc) ?_
      refine zGo_s (pc' := 25) (st' := [.int (2 : Int32)]) dd185_24 rfl ?_
      refine zGo_s (pc' := 57) (st' := [.int (2 : Int32)]) dd185_25 rfl ?_
      obtain ⟨rfl, rfl⟩ := oret h
      exact zGo_ret dd185_57 rfl rfl
  · refine zUF dd185_7 (kEqF hc) ?_
    refine zGo_s (pc' := 11) (st' := [.int (1 : Int32)]) dd185_10 rfl ?_
    refine zGo_s (pc' := 57) (st' := [.int (1 : Int32)]) dd185_11 rfl ?_
    obtain ⟨rfl, rfl⟩ := oret h
    exact zGo_ret dd185_57 rfl rfl
/-! PHModel.wordOfTasks(J)I -/
theorem dd187_0 : decode cX13_wordOfTasks 0 = .ok (.lload_n 0, 1) := by decide +kernel
theorem dd187_1 : decode cX13_wordOfTasks 1 = .ok (.ldc_w 400, 3) := by decide +kernel
theorem dd187_4 : decode cX13_wordOfTasks 4 = .ok (.invokestatic 219, 3) := by decide +kernel
theorem dd187_7 : decode cX13_wordOfTasks 7 = .ok (.lcmp, 1) := by decide +kernel
theorem dd187_8 : decode cX13_wordOfTasks 8 = .ok (.ifCond .ne 8, 3) := by decide +kernel
theorem dd187_11 : decode cX13_wordOfTasks 11 = .ok (.bipush 16, 2) := by decide +kernel
theorem dd187_13 : decode cX13_wordOfTasks 13 = .ok (.goto 196, 3) := by decide +kernel
theorem dd187_16 : decode cX13_wordOfTasks 16 = .ok (.lload_n 0, 1) := by decide +kernel
theorem dd187_17 : decode cX13_wordOfTasks 17 = .ok (.ldc_w 402, 3) := by decide +kernel
theorem dd187_20 : decode cX13_wordOfTasks 20 = .ok (.invokestatic 219, 3) := by decide +kernel
theorem dd187_23 : decode cX13_wordOfTasks 23 = .ok (.lcmp, 1) := by decide +kernel
theorem dd187_24 : decode cX13_wordOfTasks 24 = .ok (.ifCond .ne 8, 3) := by decide +kernel
theorem dd187_27 : decode cX13_wordOfTasks 27 = .ok (.bipush 17, 2) := by decide +kernel
theorem dd187_29 : decode cX13_wordOfTasks 29 = .ok (.goto 180, 3) := by decide +kernel
theorem dd187_32 : decode cX13_wordOfTasks 32 = .ok (.lload_n 0, 1) := by decide +kernel
theorem dd187_33 : decode cX13_wordOfTasks 33 = .ok (.ldc_w 404, 3) := by decide +kernel
theorem dd187_36 : decode cX13_wordOfTasks 36 = .ok (.invokestatic 219, 3) := by decide +kernel
theorem dd187_39 : decode cX13_wordOfTasks 39 = .ok (.lcmp, 1) := by decide +kernel
theorem dd187_40 : decode cX13_wordOfTasks 40 = .ok (.ifCond .ne 8, 3) := by decide +kernel
theorem dd187_43 : decode cX13_wordOfTasks 43 = .ok (.bipush 18, 2) := by decide +kernel
theorem dd187_45 : decode cX13_wordOfTasks 45 = .ok (.goto 164, 3) := by decide +kernel
theorem dd187_48 : decode cX13_wordOfTasks 48 = .ok (.lload_n 0, 1) := by decide +kernel
theorem dd187_49 : decode cX13_wordOfTasks 49 = .ok (.ldc_w 406, 3) := by decide +kernel
theorem dd187_52 : decode cX13_wordOfTasks 52 = .ok (.invokestatic 219, 3) := by decide +kernel
theorem dd187_55 : decode cX13_wordOfTasks 55 = .ok (.lcmp, 1) := by decide +kernel
theorem dd187_56 : decode cX13_wordOfTasks 56 = .ok (.ifCond .ne 8, 3) := by decide +kernel
theorem dd187_59 : decode cX13_wordOfTasks 59 = .ok (.bipush 19, 2) := by decide +kernel
theorem dd187_61 : decode cX13_wordOfTasks 61 = .ok (.goto 148, 3) := by decide +kernel
theorem dd187_64 : decode cX13_wordOfTasks 64 = .ok (.lload_n 0, 1) := by decide +kernel
theorem dd187_65 : decode cX13_wordOfTasks 65 = .ok (.ldc_w 408, 3) := by decide +kernel
theorem dd187_68 : decode cX13_wordOfTasks 68 = .ok (.invokestatic 219, 3) := by decide +kernel
theorem dd187_71 : decode cX13_wordOfTasks 71 = .ok (.lcmp, 1) := by decide +kernel
theorem dd187_72 : decode cX13_wordOfTasks 72 = .ok (.ifCond .ne 8, 3) := by decide +kernel
theorem dd187_75 : decode cX13_wordOfTasks 75 = .ok (.bipush 20, 2) := by decide +kernel
theorem dd187_77 : decode cX13_wordOfTasks 77 = .ok (.goto 132, 3) := by decide +kernel
theorem dd187_80 : decode cX13_wordOfTasks 80 = .ok (.lload_n 0, 1) := by decide +kernel
theorem dd187_81 : decode cX13_wordOfTasks 81 = .ok (.ldc_w 410, 3) := by decide +kernel
theorem dd187_84 : decode cX13_wordOfTasks 84 = .ok (.invokestatic 219, 3) := by decide +kernel
theorem dd187_87 : decode cX13_wordOfTasks 87 = .ok (.lcmp, 1) := by decide +kernel
theorem dd187_88 : decode cX13_wordOfTasks 88 = .ok (.ifCond .ne 8, 3) := by decide +kernel
theorem dd187_91 : decode cX13_wordOfTasks 91 = .ok (.bipush 21, 2) := by decide +kernel
theorem dd187_93 : decode cX13_wordOfTasks 93 = .ok (.goto 116, 3) := by decide +kernel
theorem dd187_96 : decode cX13_wordOfTasks 96 = .ok (.lload_n 0, 1) := by decide +kernel
theorem dd187_97 : decode cX13_wordOfTasks 97 = .ok (.ldc_w 412, 3) := by decide +kernel
theorem dd187_100 : decode cX13_wordOfTasks 100 = .ok (.invokestatic 219, 3) := by decide +kernel
theorem dd187_103 : decode cX13_wordOfTasks 103 = .ok (.lcmp, 1) := by decide +kernel
theorem dd187_104 : decode cX13_wordOfTasks 104 = .ok (.ifCond .ne 8, 3) := by decide +kernel
theorem dd187_107 : decode cX13_wordOfTasks 107 = .ok (.bipush 22, 2) := by decide +kernel
theorem dd187_109 : decode cX13_wordOfTasks 109 = .ok (.goto 100, 3) := by decide +kernel
theorem dd187_112 : decode cX13_wordOfTasks 112 = .ok (.lload_n 0, 1) := by decide +kernel
theorem dd187_113 : decode cX13_wordOfTasks 113 = .ok (.ldc_w 414, 3) := by decide +kernel
theorem dd187_116 : decode cX13_wordOfTasks 116 = .ok (.invokestatic 219, 3) := by decide +kernel
theorem dd187_119 : decode cX13_wordOfTasks 119 = .ok (.lcmp, 1) := by decide +kernel
theorem dd187_120 : decode cX13_wordOfTasks 120 = .ok (.ifCond .ne 8, 3) := by decide +kernel
theorem dd187_123 : decode cX13_wordOfTasks 123 = .ok (.bipush 23, 2) := by decide +kernel
theorem dd187_125 : decode cX13_wordOfTasks 125 = .ok (.goto 84, 3) := by decide +kernel
theorem dd187_128 : decode cX13_wordOfTasks 128 = .ok (.lload_n 0, 1) := by decide +kernel
theorem dd187_129 : decode cX13_wordOfTasks 129 = .ok (.ldc_w 416, 3) := by decide +kernel
theorem dd187_132 : decode cX13_wordOfTasks 132 = .ok (.invokestatic 219, 3) := by decide +kernel
theorem dd187_135 : decode cX13_wordOfTasks 135 = .ok (.lcmp, 1) := by decide +kernel
theorem dd187_136 : decode cX13_wordOfTasks 136 = .ok (.ifCond .ne 8, 3) := by decide +kernel
theorem dd187_139 : decode cX13_wordOfTasks 139 = .ok (.bipush 24, 2) := by decide +kernel
theorem dd187_141 : decode cX13_wordOfTasks 141 = .ok (.goto 68, 3) := by decide +kernel
theorem dd187_144 : decode cX13_wordOfTasks 144 = .ok (.lload_n 0, 1) := by decide +kernel
theorem dd187_145 : decode cX13_wordOfTasks 145 = .ok (.ldc_w 418, 3) := by decide +kernel
theorem dd187_148 : decode cX13_wordOfTasks 148 = .ok (.invokestatic 219, 3) := by decide +kernel
theorem dd187_151 : decode cX13_wordOfTasks 151 = .ok (.lcmp, 1) := by decide +kernel
theorem dd187_152 : decode cX13_wordOfTasks 152 = .ok (.ifCond .ne 8, 3) := by decide +kernel
theorem dd187_155 : decode cX13_wordOfTasks 155 = .ok (.bipush 25, 2) := by decide +kernel
theorem dd187_157 : decode cX13_wordOfTasks 157 = .ok (.goto 52, 3) := by decide +kernel
theorem dd187_160 : decode cX13_wordOfTasks 160 = .ok (.lload_n 0, 1) := by decide +kernel
theorem dd187_161 : decode cX13_wordOfTasks 161 = .ok (.ldc_w 420, 3) := by decide +kernel
theorem dd187_164 : decode cX13_wordOfTasks 164 = .ok (.invokestatic 219, 3) := by decide +kernel
theorem dd187_167 : decode cX13_wordOfTasks 167 = .ok (.lcmp, 1) := by decide +kernel
theorem dd187_168 : decode cX13_wordOfTasks 168 = .ok (.ifCond .ne 8, 3) := by decide +kernel
theorem dd187_171 : decode cX13_wordOfTasks 171 = .ok (.bipush 26, 2) := by decide +kernel
theorem dd187_173 : decode cX13_wordOfTasks 173 = .ok (.goto 36, 3) := by decide +kernel
theorem dd187_176 : decode cX13_wordOfTasks 176 = .ok (.lload_n 0, 1) := by decide +kernel
theorem dd187_177 : decode cX13_wordOfTasks 177 = .ok (.ldc_w 422, 3) := by decide +kernel
theorem dd187_180 : decode cX13_wordOfTasks 180 = .ok (.invokestatic 219, 3) := by decide +kernel
theorem dd187_183 : decode cX13_wordOfTasks 183 = .ok (.lcmp, 1) := by decide +kernel
theorem dd187_184 : decode cX13_wordOfTasks 184 = .ok (.ifCond .ne 8, 3) := by decide +kernel
theorem dd187_187 : decode cX13_wordOfTasks 187 = .ok (.bipush 27, 2) := by decide +kernel
theorem dd187_189 : decode cX13_wordOfTasks 189 = .ok (.goto 20, 3) := by decide +kernel
theorem dd187_192 : decode cX13_wordOfTasks 192 = .ok (.lload_n 0, 1) := by decide +kernel
theorem dd187_193 : decode cX13_wordOfTasks 193 = .ok (.ldc_w 424, 3) := by decide +kernel
theorem dd187_196 : decode cX13_wordOfTasks 196 = .ok (.invokestatic 219, 3) := by decide +kernel
theorem dd187_199 : decode cX13_wordOfTasks 199 = .ok (.lcmp, 1) := by decide +kernel
theorem dd187_200 : decode cX13_wordOfTasks 200 = .ok (.ifCond .ne 8, 3) := by decide +kernel
theorem dd187_203 : decode cX13_wordOfTasks 203 = .ok (.bipush 28, 2) := by decide +kernel
theorem dd187_205 : decode cX13_wordOfTasks 205 = .ok (.goto 4, 3) := by decide +kernel
theorem dd187_208 : decode cX13_wordOfTasks 208 = .ok (.iconst 0, 1) := by decide +kernel
theorem dd187_209 : decode cX13_wordOfTasks 209 = .ok (.ireturn, 1) := by decide +kernel
def f187 (n : Nat) (x0 : Int64) (s : zσ) : Option (Int32 × zσ) :=
    yb1 (f171 n 32 s) fun v2 u1 =>
    if x0 = v2 then
    some ((16 : Int32), u1)
    else yb1 (f171 n 33 u1) fun v4 u3 =>
    if x0 = v4 then
    some ((17 : Int32), u3)
    else yb1 (f171 n 34 u3) fun v6 u5 =>
    if x0 = v6 then
    some ((18 : Int32), u5)
    else yb1 (f171 n 35 u5) fun v8 u7 =>
    if x0 = v8 then
    some ((19 : Int32), u7)
    else yb1 (f171 n 36 u7) fun v10 u9 =>
    if x0 = v10 then
    some ((20 : Int32), u9)
    else yb1 (f171 n 37 u9) fun v12 u11 =>
    if x0 = v12 then
    some ((21 : Int32), u11)
    else yb1 (f171 n 38 u11) fun v14 u13 =>
    if x0 = v14 then
    some ((22 : Int32), u13)
    else yb1 (f171 n 39 u13) fun v16 u15 =>
    if x0 = v16 then
    some ((23 : Int32), u15)
    else yb1 (f171 n 40 u15) fun v18 u17 =>
    if x0 = v18 then
    some ((24 : Int32), u17)
    else yb1 (f171 n 41 u17) fun v20 u19 =>
    if x0 = v20 then
    some ((25 : Int32), u19)
    else yb1 (f171 n 42 u19) fun v22 u21 =>
    if x0 = v22 then
    some ((26 : Int32), u21)
    else yb1 (f171 n 43 u21) fun v24 u23 =>
    if x0 = v24 then
    some ((27 : Int32), u23)
    else yb1 (f171 n 44 u23) fun v26 u25 =>
    if x0 = v26 then
    some ((28 : Int32), u25)
    else some ((0 : Int32), u25)
set_option maxRecDepth 20000 in
theorem f187_ok {n d : Nat} {x0 : Int64} {s : zσ} {v : Int32} {s2 : zσ} (hd : 5 ≤ d) (h : f187 n x0 s = some (v, s2)) {w : zσ} {fz : Bool} {L : Nat} {xs : Nat → Int32} : zGo (zX fz L xs) d q_187 (0, [(0, .long x0)], [], zmk w s, 0, 0) (some (.int v), zmk w s2, 0, 0) := by
  obtain ⟨d, rfl⟩ : ∃ d0, d = d0 + 1 := ⟨d - 1, by omega⟩
  unfold f187 at h
  refine zGo_s (pc' := 1) (st' := [.long x0]) dd187_0 rfl ?_
  refine zGo_s (pc' := 4) (st' := [.ref 32, .long x0]) dd187_1 rfl ?_
  obtain ⟨v2, u1, hq, h⟩ := obnd h
  refine zCS1 (As := [.ref 32]) (rest := [.long x0]) (q' := q_171) dd187_4 rfl rfl rfl rfl rfl (f171_ok (d := d) (by omega) (by decide) hq) ?_
  refine zGo_s (pc' := 8) (st' := [.int (lg_cmp x0 v2)]) dd187_7 rfl ?_
  rcases oite h with ⟨hc, h⟩ | ⟨hc, h⟩
  · refine zUF dd187_8 (kcNeF hc) ?_
    refine zGo_s (pc' := 13) (st' := [.int (16 : Int32)]) dd187_11 rfl ?_
    refine zGo_s (pc' := 209) (st' := [.int (16 : Int32)]) dd187_13 rfl ?_
    obtain ⟨rfl, rfl⟩ := oret h
    exact zGo_ret dd187_209 rfl rfl
  · refine zUT dd187_8 rfl (kcNeT hc) ?_
    refine zGo_s (pc' := 17) (st' := [.long x0]) dd187_16 rfl ?_
    refine zGo_s (pc' := 20) (st' := [.ref 33, .long x0]) dd187_17 rfl ?_
    obtain ⟨v4, u3, hq, h⟩ := obnd h
    refine zCS1 (As := [.ref 33]) (rest := [.long x0]) (q' := q_171) dd187_20 rfl rfl rfl rfl rfl (f171_ok (d := d) (by omega) (by decide) hq) ?_
    refine zGo_s (pc' := 24) (st' := [.int (lg_cmp x0 v4)]) dd187_23 rfl ?_
    rcases oite h with ⟨hc, h⟩ | ⟨hc, h⟩
    · refine zUF dd187_24 (kcNeF hc) ?_
      refine zGo_s (pc' := 29) (st' := [.int (17 : Int32)]) dd187_27 rfl ?_
      refine zGo_s (pc' := 209) (st' := [.int (17 : Int32)]) dd187_29 rfl ?_
      obtain ⟨rfl, rfl⟩ := oret h
      exact zGo_ret dd187_209 rfl rfl
    · refine zUT dd187_24 rfl (kcNeT hc) ?_
      refine zGo_s (pc' := 33) (st' := [.long x0]) dd187_32 rfl ?_
      refine zGo_s (pc' := 36) (st' := [.ref 34, .long x0]) dd187_33 rfl ?_
      obtain ⟨v6, u5, hq, h⟩ := obnd h
      refine zCS1 (As := [.ref 34]) (rest := [.long x0]) (q' := q_171) dd187_36 rfl rfl rfl rfl rfl (f171_ok (d := d) (by omega) (by decide) hq) ?_
      refine zGo_s (pc' := 40) (st' := [.int (lg_cmp x0 v6)]) dd187_39 rfl ?_
      rcases oite h with ⟨hc, h⟩ | ⟨hc, h⟩
      · refine zUF dd187_40 (kcNeF hc) ?_
        refine zGo_s (pc' := 45) (st' := [.int (18 : Int32)]) dd187_43 rfl ?_
        refine zGo_s (pc' := 209) (st' := [.int (18 : Int32)]) dd187_45 rfl ?_
        obtain ⟨rfl, rfl⟩ := oret h
        exact zGo_ret dd187_209 rfl rfl
      · refine zUT dd187_40 rfl (kcNeT hc) ?_
        refine zGo_s (pc' := 49) (st' := [.long x0]) dd187_48 rfl ?_
        refine zGo_s (pc' := 52) (st' := [.ref 35, .long x0]) dd187_49 rfl ?_
        obtain ⟨v8, u7, hq, h⟩ := obnd h
        refine zCS1 (As := [.ref 35]) (rest := [.long x0]) (q' := q_171) dd187_52 rfl rfl rfl rfl rfl (f171_ok (d := d) (by omega) (by decide) hq) ?_
        refine zGo_s (pc' := 56) (st' := [.int (lg_cmp x0 v8)]) dd187_55 rfl ?_
        rcases oite h with ⟨hc, h⟩ | ⟨hc, h⟩
        · refine zUF dd187_56 (kcNeF hc) ?_
          refine zGo_s (pc' := 61) (st' := [.int (19 : Int32)]) dd187_59 rfl ?_
          refine zGo_s (pc' := 209) (st' := [.int (19 : Int32)]) dd187_61 rfl ?_
          obtain ⟨rfl, rfl⟩ := oret h
          exact zGo_ret dd187_209 rfl rfl
        · refine zUT dd187_56 rfl (kcNeT hc) ?_
          refine zGo_s (pc' := 65) (st' := [.long x0]) dd187_64 rfl ?_
          refine zGo_s (pc' := 68) (st' := [.ref 36, .long x0]) dd187_65 rfl ?_
          obtain ⟨v10, u9, hq, h⟩ := obnd h
          refine zCS1 (As := [.ref 36]) (rest := [.long x0]) (q' := q_171) dd187_68 rfl rfl rfl rfl rfl (f171_ok (d := d) (by omega) (by decide) hq) ?_
          refine zGo_s (pc' := 72) (st' := [.int (lg_cmp x0 v10)]) dd187_71 rfl ?_
          rcases oite h with ⟨hc, h⟩ | ⟨hc, h⟩
          · refine zUF dd187_72 (kcNeF hc) ?_
            refine zGo_s (pc' := 77) (st' := [.int (20 : Int32)]) dd187_75 rfl ?_
            refine zGo_s (pc' := 209) (st' := [.int (20 : Int32)]) dd187_77 rfl ?_
            obtain ⟨rfl, rfl⟩ := oret h
            exact zGo_ret dd187_209 rfl rfl
          · refine zUT dd187_72 rfl (kcNeT hc) ?_
            refine zGo_s (pc' := 81) (st' := [.long x0]) dd187_80 rfl ?_
            refine zGo_s (pc' := 84) (st' := [.ref 37, .long x0]) dd187_81 rfl ?_
            obtain ⟨v12, u11, hq, h⟩ := obnd h
            refine zCS1 (As := [.ref 37]) (rest := [.long x0]) (q' := q_171) dd187_84 rfl rfl rfl rfl rfl (f171_ok (d := d) (by omega) (by decide) hq) ?_
            refine zGo_s (pc' := 88) (st' := [.int (lg_cmp x0 v12)]) dd187_87 rfl ?_
            rcases oite h with ⟨hc, h⟩ | ⟨hc, h⟩
            · refine zUF dd187_88 (kcNeF hc) ?_
              refine zGo_s (pc' := 93) (st' := [.int (21 : Int32)]) dd187_91 rfl ?_
              refine zGo_s (pc' := 209) (st' := [.int (21 : Int32)]) dd187_93 rfl ?_
              obtain ⟨rfl, rfl⟩ := oret h
              exact zGo_ret dd187_209 rfl rfl
            · refine zUT dd187_88 rfl (kcNeT hc) ?_
              refine zGo_s (pc' := 97) (st' := [.long x0]) dd187_96 rfl ?_
              refine zGo_s (pc' := 100) (st' := [.ref 38, .long x0]) dd187_97 rfl ?_
              obtain ⟨v14, u13, hq, h⟩ := obnd h
              refine zCS1 (As := [.ref 38]) (rest := [.long x0]) (q' := q_171) dd187_100 rfl rfl rfl rfl rfl (f171_ok (d := d) (by omega) (by decide) hq) ?_
              refine zGo_s (pc' := 104) (st' := [.int (lg_cmp x0 v14)]) dd187_103 rfl ?_
              rcases oite h with ⟨hc, h⟩ | ⟨hc, h⟩
              · refine zUF dd187_104 (kcNeF hc) ?_
                refine zGo_s (pc' := 109) (st' := [.int (22 : Int32)]) dd187_107 rfl ?_
                refine zGo_s (pc' := 209) (st' := [.int (22 : Int32)]) dd187_109 rfl ?_
                obtain ⟨rfl, rfl⟩ := oret h
                exact zGo_ret dd187_209 rfl rfl
              · refine zUT dd187_104 rfl (kcNeT hc) ?_
                refine zGo_s (pc' := 113) (st' := [.long x0]) dd187_112 rfl ?_
                refine zGo_s (pc' := 116) (st' := [.ref 39, .long x0]) dd187_113 rfl ?_
                obtain ⟨v16, u15, hq, h⟩ := obnd h
                refine zCS1 (As := [.ref 39]) (rest := [.long x0]) (q' := q_171) dd187_116 rfl rfl rfl rfl rfl (f171_ok (d := d) (by omega) (by decide) hq) ?_
                refine zGo_s (pc' := 120) (st' := [.int (lg_cmp x0 v16)]) dd187_119 rfl ?_
                rcases oite h with ⟨hc, h⟩ | ⟨hc, h⟩
                · refine zUF dd187_120 (kcNeF hc) ?_
                  refine zGo_s (pc' := 125) (st' := [.int (23 : Int32)]) dd187_123 rfl ?_
                  refine zGo_s (pc' := 209) (st' := [.int (23 : Int32)]) dd187_125 rfl ?_
                  obtain ⟨rfl, rfl⟩ := oret h
                  exact zGo_ret dd187_209 rfl rfl
                · refine zUT dd187_120 rfl (kcNeT hc) ?_
                  refine zGo_s (pc' := 129) (st' := [.long x0]) dd187_128 rfl ?_
                  refine zGo_s (pc' := 132) (st' := [.ref 40, .long x0]) dd187_129 rfl ?_
                  obtain ⟨v18, u17, hq, h⟩ := obnd h
                  refine zCS1 (As := [.ref 40]) (rest := [.long x0]) (q' := q_171) dd187_132 rfl rfl rfl rfl rfl (f171_ok (d := d) (by omega) (by decide) hq) ?_
                  refine zGo_s (pc' := 136) (st' := [.int (lg_cmp x0 v18)]) dd187_135 rfl ?_
                  rcases oite h with ⟨hc, h⟩ | ⟨hc, h⟩
                  · refine zUF dd187_136 (kcNeF hc) ?_
                    refine zGo_s (pc' := 141) (st' := [.int (24 : Int32)]) dd187_139 rfl ?_
                    refine zGo_s (pc' := 209) (st' := [.int (24 : Int32)]) dd187_141 rfl ?_
                    obtain ⟨rfl, rfl⟩ := oret h
                    exact zGo_ret dd187_209 rfl rfl
                  · refine zUT dd187_136 rfl (kcNeT hc) ?_
                    refine zGo_s (pc' := 145) (st' := [.long x0]) dd187_144 rfl ?_
                    refine zGo_s (pc' := 148) (st' := [.ref 41, .long x0]) dd187_145 rfl ?_
                    obtain ⟨v20, u19, hq, h⟩ := obnd h
                    refine zCS1 (As := [.ref 41]) (rest := [.long x0]) (q' := q_171) dd187_148 rfl rfl rfl rfl rfl (f171_ok (d := d) (by omega) (by decide) hq) ?_
                    refine zGo_s (pc' := 152) (st' := [.int (lg_cmp x0 v20)]) dd187_151 rfl ?_
                    rcases oite h with ⟨hc, h⟩ | ⟨hc, h⟩
                    · refine zUF dd187_152 (kcNeF hc) ?_
                      refine zGo_s (pc' := 157) (st' := [.int (25 : Int32)]) dd187_155 rfl ?_
                      refine zGo_s (pc' := 209) (st' := [.int (25 : Int32)]) dd187_157 rfl ?_
                      obtain ⟨rfl, rfl⟩ := oret h
                      exact zGo_ret dd187_209 rfl rfl
                    · refine zUT dd187_152 rfl (kcNeT hc) ?_
                      refine zGo_s (pc' := 161) (st' := [.long x0]) dd187_160 rfl ?_
                      refine zGo_s (pc' := 164) (st' := [.ref 42, .long x0]) dd187_161 rfl ?_
                      obtain ⟨v22, u21, hq, h⟩ := obnd h
                      refine zCS1 (As := [.ref 42]) (rest := [.long x0]) (q' := q_171) dd187_164 rfl rfl rfl rfl rfl (f171_ok (d := d) (by omega) (by decide) hq) ?_
                      refine zGo_s (pc' := 168) (st' := [.int (lg_cmp x0 v22)]) dd187_167 rfl ?_
                      rcases oite h with ⟨hc, h⟩ | ⟨hc, h⟩
                      · refine zUF dd187_168 (kcNeF hc) ?_
                        refine zGo_s (pc' := 173) (st' := [.int (26 : Int32)]) dd187_171 rfl ?_
                        refine zGo_s (pc' := 209) (st' := [.int (26 : Int32)]) dd187_173 rfl ?_
                        obtain ⟨rfl, rfl⟩ := oret h
                        exact zGo_ret dd187_209 rfl rfl
                      · refine zUT dd187_168 rfl (kcNeT hc) ?_
                        refine zGo_s (pc' := 177) (st' := [.long x0]) dd187_176 rfl ?_
                        refine zGo_s (pc' := 180) (st' := [.ref 43, .long x0]) dd187_177 rfl ?_
                        obtain ⟨v24, u23, hq, h⟩ := obnd h
                        refine zCS1 (As := [.ref 43]) (rest := [.long x0]) (q' := q_171) dd187_180 rfl rfl rfl rfl rfl (f171_ok (d := d) (by omega) (by decide) hq) ?_
                        refine zGo_s (pc' := 184) (st' := [.int (lg_cmp x0 v24)]) dd187_183 rfl ?_
                        rcases oite h with ⟨hc, h⟩ | ⟨hc, h⟩
                        · refine zUF dd187_184 (kcNeF hc) ?_
                          refine zGo_s (pc' := 189) (st' := [.int (27 : Int32)]) dd187_187 rfl ?_
                          refine zGo_s (pc' := 209) (st' := [.int (27 : Int32)]) dd187_189 rfl ?_
                          obtain ⟨rfl, rfl⟩ := oret h
                          exact zGo_ret dd187_209 rfl rfl
                        · refine zUT dd187_184 rfl (kcNeT hc) ?_
                          refine zGo_s (pc' := 193) (st' := [.long x0]) dd187_192 rfl ?_
                          refine zGo_s (pc' := 196) (st' := [.ref 44, .long x0]) dd187_193 rfl ?_
                          obtain ⟨v26, u25, hq, h⟩ := obnd h
                          refine zCS1 (As := [.ref 44]) (rest := [.long x0]) (q' := q_171) dd187_196 rfl rfl rfl rfl rfl (f171_ok (d := d) (by omega) (by decide) hq) ?_
                          refine zGo_s (pc' := 200) (st' := [.int (lg_cmp x0 v26)]) dd187_199 rfl ?_
                          rcases oite h with ⟨hc, h⟩ | ⟨hc, h⟩
                          · refine zUF dd187_200 (kcNeF hc) ?_
                            refine zGo_s (pc' := 205) (st' := [.int (28 : Int32)]) dd187_203 rfl ?_
                            refine zGo_s (pc' := 209) (st' := [.int (28 : Int32)]) dd187_205 rfl ?_
                            obtain ⟨rfl, rfl⟩ := oret h
                            exact zGo_ret dd187_209 rfl rfl
                          · refine zUT dd187_200 rfl (kcNeT hc) ?_
                            refine zGo_s (pc' := 209) (st' := [.int (0 : Int32)]) dd187_208 rfl ?_
                            obtain ⟨rfl, rfl⟩ := oret h
                            exact zGo_ret dd187_209 rfl rfl
/-! PHModel.wordOf(J)I -/
theorem dd186_0 : decode cX13_wordOf 0 = .ok (.lload_n 0, 1) := by decide +kernel
theorem dd186_1 : decode cX13_wordOf 1 = .ok (.ldc_w 370, 3) := by decide +kernel
theorem dd186_4 : decode cX13_wordOf 4 = .ok (.invokestatic 219, 3) := by decide +kernel
theorem dd186_7 : decode cX13_wordOf 7 = .ok (.lcmp, 1) := by decide +kernel
theorem dd186_8 : decode cX13_wordOf 8 = .ok (.ifCond .ne 7, 3) := by decide +kernel
theorem dd186_11 : decode cX13_wordOf 11 = .ok (.iconst 3, 1) := by decide +kernel
theorem dd186_12 : decode cX13_wordOf 12 = .ok (.goto 197, 3) := by decide +kernel
theorem dd186_15 : decode cX13_wordOf 15 = .ok (.lload_n 0, 1) := by decide +kernel
theorem dd186_16 : decode cX13_wordOf 16 = .ok (.ldc_w 372, 3) := by decide +kernel
theorem dd186_19 : decode cX13_wordOf 19 = .ok (.invokestatic 219, 3) := by decide +kernel
theorem dd186_22 : decode cX13_wordOf 22 = .ok (.lcmp, 1) := by decide +kernel
theorem dd186_23 : decode cX13_wordOf 23 = .ok (.ifCond .ne 7, 3) := by decide +kernel
theorem dd186_26 : decode cX13_wordOf 26 = .ok (.iconst 4, 1) := by decide +kernel
theorem dd186_27 : decode cX13_wordOf 27 = .ok (.goto 182, 3) := by decide +kernel
theorem dd186_30 : decode cX13_wordOf 30 = .ok (.lload_n 0, 1) := by decide +kernel
theorem dd186_31 : decode cX13_wordOf 31 = .ok (.ldc_w 374, 3) := by decide +kernel
theorem dd186_34 : decode cX13_wordOf 34 = .ok (.invokestatic 219, 3) := by decide +kernel
theorem dd186_37 : decode cX13_wordOf 37 = .ok (.lcmp, 1) := by decide +kernel
theorem dd186_38 : decode cX13_wordOf 38 = .ok (.ifCond .ne 7, 3) := by decide +kernel
theorem dd186_41 : decode cX13_wordOf 41 = .ok (.iconst 5, 1) := by decide +kernel
theorem dd186_42 : decode cX13_wordOf 42 = .ok (.goto 167, 3) := by decide +kernel
theorem dd186_45 : decode cX13_wordOf 45 = .ok (.lload_n 0, 1) := by decide +kernel
theorem dd186_46 : decode cX13_wordOf 46 = .ok (.ldc_w 376, 3) := by decide +kernel
theorem dd186_49 : decode cX13_wordOf 49 = .ok (.invokestatic 219, 3) := by decide +kernel
theorem dd186_52 : decode cX13_wordOf 52 = .ok (.lcmp, 1) := by decide +kernel
theorem dd186_53 : decode cX13_wordOf 53 = .ok (.ifCond .ne 8, 3) := by decide +kernel
theorem dd186_56 : decode cX13_wordOf 56 = .ok (.bipush 6, 2) := by decide +kernel
theorem dd186_58 : decode cX13_wordOf 58 = .ok (.goto 151, 3) := by decide +kernel
theorem dd186_61 : decode cX13_wordOf 61 = .ok (.lload_n 0, 1) := by decide +kernel
theorem dd186_62 : decode cX13_wordOf 62 = .ok (.ldc_w 378, 3) := by decide +kernel
theorem dd186_65 : decode cX13_wordOf 65 = .ok (.invokestatic 219, 3) := by decide +kernel
theorem dd186_68 : decode cX13_wordOf 68 = .ok (.lcmp, 1) := by decide +kernel
theorem dd186_69 : decode cX13_wordOf 69 = .ok (.ifCond .ne 8, 3) := by decide +kernel
theorem dd186_72 : decode cX13_wordOf 72 = .ok (.bipush 7, 2) := by decide +kernel
theorem dd186_74 : decode cX13_wordOf 74 = .ok (.goto 135, 3) := by decide +kernel
theorem dd186_77 : decode cX13_wordOf 77 = .ok (.lload_n 0, 1) := by decide +kernel
theorem dd186_78 : decode cX13_wordOf 78 = .ok (.ldc_w 380, 3) := by decide +kernel
theorem dd186_81 : decode cX13_wordOf 81 = .ok (.invokestatic 219, 3) := by decide +kernel
theorem dd186_84 : decode cX13_wordOf 84 = .ok (.lcmp, 1) := by decide +kernel
theorem dd186_85 : decode cX13_wordOf 85 = .ok (.ifCond .ne 8, 3) := by decide +kernel
theorem dd186_88 : decode cX13_wordOf 88 = .ok (.bipush 8, 2) := by decide +kernel
theorem dd186_90 : decode cX13_wordOf 90 = .ok (.goto 119, 3) := by decide +kernel
theorem dd186_93 : decode cX13_wordOf 93 = .ok (.lload_n 0, 1) := by decide +kernel
theorem dd186_94 : decode cX13_wordOf 94 = .ok (.ldc_w 382, 3) := by decide +kernel
theorem dd186_97 : decode cX13_wordOf 97 = .ok (.invokestatic 219, 3) := by decide +kernel
theorem dd186_100 : decode cX13_wordOf 100 = .ok (.lcmp, 1) := by decide +kernel
theorem dd186_101 : decode cX13_wordOf 101 = .ok (.ifCond .ne 8, 3) := by decide +kernel
theorem dd186_104 : decode cX13_wordOf 104 = .ok (.bipush 9, 2) := by decide +kernel
theorem dd186_106 : decode cX13_wordOf 106 = .ok (.goto 103, 3) := by decide +kernel
theorem dd186_109 : decode cX13_wordOf 109 = .ok (.lload_n 0, 1) := by decide +kernel
theorem dd186_110 : decode cX13_wordOf 110 = .ok (.ldc_w 384, 3) := by decide +kernel
theorem dd186_113 : decode cX13_wordOf 113 = .ok (.invokestatic 219, 3) := by decide +kernel
theorem dd186_116 : decode cX13_wordOf 116 = .ok (.lcmp, 1) := by decide +kernel
theorem dd186_117 : decode cX13_wordOf 117 = .ok (.ifCond .ne 8, 3) := by decide +kernel
theorem dd186_120 : decode cX13_wordOf 120 = .ok (.bipush 10, 2) := by decide +kernel
theorem dd186_122 : decode cX13_wordOf 122 = .ok (.goto 87, 3) := by decide +kernel
theorem dd186_125 : decode cX13_wordOf 125 = .ok (.lload_n 0, 1) := by decide +kernel
theorem dd186_126 : decode cX13_wordOf 126 = .ok (.ldc_w 386, 3) := by decide +kernel
theorem dd186_129 : decode cX13_wordOf 129 = .ok (.invokestatic 219, 3) := by decide +kernel
theorem dd186_132 : decode cX13_wordOf 132 = .ok (.lcmp, 1) := by decide +kernel
theorem dd186_133 : decode cX13_wordOf 133 = .ok (.ifCond .ne 8, 3) := by decide +kernel
theorem dd186_136 : decode cX13_wordOf 136 = .ok (.bipush 11, 2) := by decide +kernel
theorem dd186_138 : decode cX13_wordOf 138 = .ok (.goto 71, 3) := by decide +kernel
theorem dd186_141 : decode cX13_wordOf 141 = .ok (.lload_n 0, 1) := by decide +kernel
theorem dd186_142 : decode cX13_wordOf 142 = .ok (.ldc_w 388, 3) := by decide +kernel
theorem dd186_145 : decode cX13_wordOf 145 = .ok (.invokestatic 219, 3) := by decide +kernel
theorem dd186_148 : decode cX13_wordOf 148 = .ok (.lcmp, 1) := by decide +kernel
theorem dd186_149 : decode cX13_wordOf 149 = .ok (.ifCond .ne 8, 3) := by decide +kernel
theorem dd186_152 : decode cX13_wordOf 152 = .ok (.bipush 12, 2) := by decide +kernel
theorem dd186_154 : decode cX13_wordOf 154 = .ok (.goto 55, 3) := by decide +kernel
theorem dd186_157 : decode cX13_wordOf 157 = .ok (.lload_n 0, 1) := by decide +kernel
theorem dd186_158 : decode cX13_wordOf 158 = .ok (.ldc_w 390, 3) := by decide +kernel
theorem dd186_161 : decode cX13_wordOf 161 = .ok (.invokestatic 219, 3) := by decide +kernel
theorem dd186_164 : decode cX13_wordOf 164 = .ok (.lcmp, 1) := by decide +kernel
theorem dd186_165 : decode cX13_wordOf 165 = .ok (.ifCond .ne 8, 3) := by decide +kernel
theorem dd186_168 : decode cX13_wordOf 168 = .ok (.bipush 13, 2) := by decide +kernel
theorem dd186_170 : decode cX13_wordOf 170 = .ok (.goto 39, 3) := by decide +kernel
theorem dd186_173 : decode cX13_wordOf 173 = .ok (.lload_n 0, 1) := by decide +kernel
theorem dd186_174 : decode cX13_wordOf 174 = .ok (.ldc_w 392, 3) := by decide +kernel
theorem dd186_177 : decode cX13_wordOf 177 = .ok (.invokestatic 219, 3) := by decide +kernel
theorem dd186_180 : decode cX13_wordOf 180 = .ok (.lcmp, 1) := by decide +kernel
theorem dd186_181 : decode cX13_wordOf 181 = .ok (.ifCond .ne 8, 3) := by decide +kernel
theorem dd186_184 : decode cX13_wordOf 184 = .ok (.bipush 14, 2) := by decide +kernel
theorem dd186_186 : decode cX13_wordOf 186 = .ok (.goto 23, 3) := by decide +kernel
theorem dd186_189 : decode cX13_wordOf 189 = .ok (.lload_n 0, 1) := by decide +kernel
theorem dd186_190 : decode cX13_wordOf 190 = .ok (.ldc_w 394, 3) := by decide +kernel
theorem dd186_193 : decode cX13_wordOf 193 = .ok (.invokestatic 219, 3) := by decide +kernel
theorem dd186_196 : decode cX13_wordOf 196 = .ok (.lcmp, 1) := by decide +kernel
theorem dd186_197 : decode cX13_wordOf 197 = .ok (.ifCond .ne 8, 3) := by decide +kernel
theorem dd186_200 : decode cX13_wordOf 200 = .ok (.bipush 15, 2) := by decide +kernel
theorem dd186_202 : decode cX13_wordOf 202 = .ok (.goto 7, 3) := by decide +kernel
theorem dd186_205 : decode cX13_wordOf 205 = .ok (.lload_n 0, 1) := by decide +kernel
theorem dd186_206 : decode cX13_wordOf 206 = .ok (.invokestatic 396, 3) := by decide +kernel
theorem dd186_209 : decode cX13_wordOf 209 = .ok (.ireturn, 1) := by decide +kernel
def f186 (n : Nat) (x0 : Int64) (s : zσ) : Option (Int32 × zσ) :=
    yb1 (f171 n 19 s) fun v2 u1 =>
    if x0 = v2 then
    some ((3 : Int32), u1)
    else yb1 (f171 n 20 u1) fun v4 u3 =>
    if x0 = v4 then
    some ((4 : Int32), u3)
    else yb1 (f171 n 21 u3) fun v6 u5 =>
    if x0 = v6 then
    some ((5 : Int32), u5)
    else yb1 (f171 n 22 u5) fun v8 u7 =>
    if x0 = v8 then
    some ((6 : Int32), u7)
    else yb1 (f171 n 23 u7) fun v10 u9 =>
    if x0 = v10 then
    some ((7 : Int32), u9)
    else yb1 (f171 n 24 u9) fun v12 u11 =>
    if x0 = v12 then
    some ((8 : Int32), u11)
    else yb1 (f171 n 25 u11) fun v14 u13 =>
    if x0 = v14 then
    some ((9 : Int32), u13)
    else yb1 (f171 n 26 u13) fun v16 u15 =>
    if x0 = v16 then
    some ((10 : Int32), u15)
    else yb1 (f171 n 27 u15) fun v18 u17 =>
    if x0 = v18 then
    some ((11 : Int32), u17)
    else yb1 (f171 n 28 u17) fun v20 u19 =>
    if x0 = v20 then
    some ((12 : Int32), u19)
    else yb1 (f171 n 29 u19) fun v22 u21 =>
    if x0 = v22 then
    some ((13 : Int32), u21)
    else yb1 (f171 n 30 u21) fun v24 u23 =>
    if x0 = v24 then
    some ((14 : Int32), u23)
    else yb1 (f171 n 31 u23) fun v26 u25 =>
    if x0 = v26 then
    some ((15 : Int32), u25)
    else yb1 (f187 n x0 u25) fun v28 u27 =>
    some (v28, u27)
set_option maxRecDepth 20000 in
theorem f186_ok {n d : Nat} {x0 : Int64} {s : zσ} {v : Int32} {s2 : zσ} (hd : 6 ≤ d) (h : f186 n x0 s = some (v, s2)) {w : zσ} {fz : Bool} {L : Nat} {xs : Nat → Int32} : zGo (zX fz L xs) d q_186 (0, [(0, .long x0)], [], zmk w s, 0, 0) (some (.int v), zmk w s2, 0, 0) := by
  obtain ⟨d, rfl⟩ : ∃ d0, d = d0 + 1 := ⟨d - 1, by omega⟩
  unfold f186 at h
  refine zGo_s (pc' := 1) (st' := [.long x0]) dd186_0 rfl ?_
  refine zGo_s (pc' := 4) (st' := [.ref 19, .long x0]) dd186_1 rfl ?_
  obtain ⟨v2, u1, hq, h⟩ := obnd h
  refine zCS1 (As := [.ref 19]) (rest := [.long x0]) (q' := q_171) dd186_4 rfl rfl rfl rfl rfl (f171_ok (d := d) (by omega) (by decide) hq) ?_
  refine zGo_s (pc' := 8) (st' := [.int (lg_cmp x0 v2)]) dd186_7 rfl ?_
  rcases oite h with ⟨hc, h⟩ | ⟨hc, h⟩
  · refine zUF dd186_8 (kcNeF hc) ?_
    refine zGo_s (pc' := 12) (st' := [.int (3 : Int32)]) dd186_11 rfl ?_
    refine zGo_s (pc' := 209) (st' := [.int (3 : Int32)]) dd186_12 rfl ?_
    obtain ⟨rfl, rfl⟩ := oret h
    exact zGo_ret dd186_209 rfl rfl
  · refine zUT dd186_8 rfl (kcNeT hc) ?_
    refine zGo_s (pc' := 16) (st' := [.long x0]) dd186_15 rfl ?_
    refine zGo_s (pc' := 19) (st' := [.ref 20, .long x0]) dd186_16 rfl ?_
    obtain ⟨v4, u3, hq, h⟩ := obnd h
    refine zCS1 (As := [.ref 20]) (rest := [.long x0]) (q' := q_171) dd186_19 rfl rfl rfl rfl rfl (f171_ok (d := d) (by omega) (by decide) hq) ?_
    refine zGo_s (pc' := 23) (st' := [.int (lg_cmp x0 v4)]) dd186_22 rfl ?_
    rcases oite h with ⟨hc, h⟩ | ⟨hc, h⟩
    · refine zUF dd186_23 (kcNeF hc) ?_
      refine zGo_s (pc' := 27) (st' := [.int (4 : Int32)]) dd186_26 rfl ?_
      refine zGo_s (pc' := 209) (st' := [.int (4 : Int32)]) dd186_27 rfl ?_
      obtain ⟨rfl, rfl⟩ := oret h
      exact zGo_ret dd186_209 rfl rfl
    · refine zUT dd186_23 rfl (kcNeT hc) ?_
      refine zGo_s (pc' := 31) (st' := [.long x0]) dd186_30 rfl ?_
      refine zGo_s (pc' := 34) (st' := [.ref 21, .long x0]) dd186_31 rfl ?_
      obtain ⟨v6, u5, hq, h⟩ := obnd h
      refine zCS1 (As := [.ref 21]) (rest := [.long x0]) (q' := q_171) dd186_34 rfl rfl rfl rfl rfl (f171_ok (d := d) (by omega) (by decide) hq) ?_
      refine zGo_s (pc' := 38) (st' := [.int (lg_cmp x0 v6)]) dd186_37 rfl ?_
      rcases oite h with ⟨hc, h⟩ | ⟨hc, h⟩
      · refine zUF dd186_38 (kcNeF hc) ?_
        refine zGo_s (pc' := 42) (st' := [.int (5 : Int32)]) dd186_41 rfl ?_
        refine zGo_s (pc' := 209) (st' := [.int (5 : Int32)]) dd186_42 rfl ?_
        obtain ⟨rfl, rfl⟩ := oret h
        exact zGo_ret dd186_209 rfl rfl
      · refine zUT dd186_38 rfl (kcNeT hc) ?_
        refine zGo_s (pc' := 46) (st' := [.long x0]) dd186_45 rfl ?_
        refine zGo_s (pc' := 49) (st' := [.ref 22, .long x0]) dd186_46 rfl ?_
        obtain ⟨v8, u7, hq, h⟩ := obnd h
        refine zCS1 (As := [.ref 22]) (rest := [.long x0]) (q' := q_171) dd186_49 rfl rfl rfl rfl rfl (f171_ok (d := d) (by omega) (by decide) hq) ?_
        refine zGo_s (pc' := 53) (st' := [.int (lg_cmp x0 v8)]) dd186_52 rfl ?_
        rcases oite h with ⟨hc, h⟩ | ⟨hc, h⟩
        · refine zUF dd186_53 (kcNeF hc) ?_
          refine zGo_s (pc' := 58) (st' := [.int (6 : Int32)]) dd186_56 rfl ?_
          refine zGo_s (pc' := 209) (st' := [.int (6 : Int32)]) dd186_58 rfl ?_
          obtain ⟨rfl, rfl⟩ := oret h
          exact zGo_ret dd186_209 rfl rfl
        · refine zUT dd186_53 rfl (kcNeT hc) ?_
          refine zGo_s (pc' := 62) (st' := [.long x0]) dd186_61 rfl ?_
          refine zGo_s (pc' := 65) (st' := [.ref 23, .long x0]) dd186_62 rfl ?_
          obtain ⟨v10, u9, hq, h⟩ := obnd h
          refine zCS1 (As := [.ref 23]) (rest := [.long x0]) (q' := q_171) dd186_65 rfl rfl rfl rfl rfl (f171_ok (d := d) (by omega) (by decide) hq) ?_
          refine zGo_s (pc' := 69) (st' := [.int (lg_cmp x0 v10)]) dd186_68 rfl ?_
          rcases oite h with ⟨hc, h⟩ | ⟨hc, h⟩
          · refine zUF dd186_69 (kcNeF hc) ?_
            refine zGo_s (pc' := 74) (st' := [.int (7 : Int32)]) dd186_72 rfl ?_
            refine zGo_s (pc' := 209) (st' := [.int (7 : Int32)]) dd186_74 rfl ?_
            obtain ⟨rfl, rfl⟩ := oret h
            exact zGo_ret dd186_209 rfl rfl
          · refine zUT dd186_69 rfl (kcNeT hc) ?_
            refine zGo_s (pc' := 78) (st' := [.long x0]) dd186_77 rfl ?_
            refine zGo_s (pc' := 81) (st' := [.ref 24, .long x0]) dd186_78 rfl ?_
            obtain ⟨v12, u11, hq, h⟩ := obnd h
            refine zCS1 (As := [.ref 24]) (rest := [.long x0]) (q' := q_171) dd186_81 rfl rfl rfl rfl rfl (f171_ok (d := d) (by omega) (by decide) hq) ?_
            refine zGo_s (pc' := 85) (st' := [.int (lg_cmp x0 v12)]) dd186_84 rfl ?_
            rcases oite h with ⟨hc, h⟩ | ⟨hc, h⟩
            · refine zUF dd186_85 (kcNeF hc) ?_
              refine zGo_s (pc' := 90) (st' := [.int (8 : Int32)]) dd186_88 rfl ?_
              refine zGo_s (pc' := 209) (st' := [.int (8 : Int32)]) dd186_90 rfl ?_
              obtain ⟨rfl, rfl⟩ := oret h
              exact zGo_ret dd186_209 rfl rfl
            · refine zUT dd186_85 rfl (kcNeT hc) ?_
              refine zGo_s (pc' := 94) (st' := [.long x0]) dd186_93 rfl ?_
              refine zGo_s (pc' := 97) (st' := [.ref 25, .long x0]) dd186_94 rfl ?_
              obtain ⟨v14, u13, hq, h⟩ := obnd h
              refine zCS1 (As := [.ref 25]) (rest := [.long x0]) (q' := q_171) dd186_97 rfl rfl rfl rfl rfl (f171_ok (d := d) (by omega) (by decide) hq) ?_
              refine zGo_s (pc' := 101) (st' := [.int (lg_cmp x0 v14)]) dd186_100 rfl ?_
              rcases oite h with ⟨hc, h⟩ | ⟨hc, h⟩
              · refine zUF dd186_101 (kcNeF hc) ?_
                refine zGo_s (pc' := 106) (st' := [.int (9 : Int32)]) dd186_104 rfl ?_
                refine zGo_s (pc' := 209) (st' := [.int (9 : Int32)]) dd186_106 rfl ?_
                obtain ⟨rfl, rfl⟩ := oret h
                exact zGo_ret dd186_209 rfl rfl
              · refine zUT dd186_101 rfl (kcNeT hc) ?_
                refine zGo_s (pc' := 110) (st' := [.long x0]) dd186_109 rfl ?_
                refine zGo_s (pc' := 113) (st' := [.ref 26, .long x0]) dd186_110 rfl ?_
                obtain ⟨v16, u15, hq, h⟩ := obnd h
                refine zCS1 (As := [.ref 26]) (rest := [.long x0]) (q' := q_171) dd186_113 rfl rfl rfl rfl rfl (f171_ok (d := d) (by omega) (by decide) hq) ?_
                refine zGo_s (pc' := 117) (st' := [.int (lg_cmp x0 v16)]) dd186_116 rfl ?_
                rcases oite h with ⟨hc, h⟩ | ⟨hc, h⟩
                · refine zUF dd186_117 (kcNeF hc) ?_
                  refine zGo_s (pc' := 122) (st' := [.int (10 : Int32)]) dd186_120 rfl ?_
                  refine zGo_s (pc' := 209) (st' := [.int (10 : Int32)]) dd186_122 rfl ?_
                  obtain ⟨rfl, rfl⟩ := oret h
                  exact zGo_ret dd186_209 rfl rfl
                · refine zUT dd186_117 rfl (kcNeT hc) ?_
                  refine zGo_s (pc' := 126) (st' := [.long x0]) dd186_125 rfl ?_
                  refine zGo_s (pc' := 129) (st' := [.ref 27, .long x0]) dd186_126 rfl ?_
                  obtain ⟨v18, u17, hq, h⟩ := obnd h
                  refine zCS1 (As := [.ref 27]) (rest := [.long x0]) (q' := q_171) dd186_129 rfl rfl rfl rfl rfl (f171_ok (d := d) (by omega) (by decide) hq) ?_
                  refine zGo_s (pc' := 133) (st' := [.int (lg_cmp x0 v18)]) dd186_132 rfl ?_
                  rcases oite h with ⟨hc, h⟩ | ⟨hc, h⟩
                  · refine zUF dd186_133 (kcNeF hc) ?_
                    refine zGo_s (pc' := 138) (st' := [.int (11 : Int32)]) dd186_136 rfl ?_
                    refine zGo_s (pc' := 209) (st' := [.int (11 : Int32)]) dd186_138 rfl ?_
                    obtain ⟨rfl, rfl⟩ := oret h
                    exact zGo_ret dd186_209 rfl rfl
                  · refine zUT dd186_133 rfl (kcNeT hc) ?_
                    refine zGo_s (pc' := 142) (st' := [.long x0]) dd186_141 rfl ?_
                    refine zGo_s (pc' := 145) (st' := [.ref 28, .long x0]) dd186_142 rfl ?_
                    obtain ⟨v20, u19, hq, h⟩ := obnd h
                    refine zCS1 (As := [.ref 28]) (rest := [.long x0]) (q' := q_171) dd186_145 rfl rfl rfl rfl rfl (f171_ok (d := d) (by omega) (by decide) hq) ?_
                    refine zGo_s (pc' := 149) (st' := [.int (lg_cmp x0 v20)]) dd186_148 rfl ?_
                    rcases oite h with ⟨hc, h⟩ | ⟨hc, h⟩
                    · refine zUF dd186_149 (kcNeF hc) ?_
                      refine zGo_s (pc' := 154) (st' := [.int (12 : Int32)]) dd186_152 rfl ?_
                      refine zGo_s (pc' := 209) (st' := [.int (12 : Int32)]) dd186_154 rfl ?_
                      obtain ⟨rfl, rfl⟩ := oret h
                      exact zGo_ret dd186_209 rfl rfl
                    · refine zUT dd186_149 rfl (kcNeT hc) ?_
                      refine zGo_s (pc' := 158) (st' := [.long x0]) dd186_157 rfl ?_
                      refine zGo_s (pc' := 161) (st' := [.ref 29, .long x0]) dd186_158 rfl ?_
                      obtain ⟨v22, u21, hq, h⟩ := obnd h
                      refine zCS1 (As := [.ref 29]) (rest := [.long x0]) (q' := q_171) dd186_161 rfl rfl rfl rfl rfl (f171_ok (d := d) (by omega) (by decide) hq) ?_
                      refine zGo_s (pc' := 165) (st' := [.int (lg_cmp x0 v22)]) dd186_164 rfl ?_
                      rcases oite h with ⟨hc, h⟩ | ⟨hc, h⟩
                      · refine zUF dd186_165 (kcNeF hc) ?_
                        refine zGo_s (pc' := 170) (st' := [.int (13 : Int32)]) dd186_168 rfl ?_
                        refine zGo_s (pc' := 209) (st' := [.int (13 : Int32)]) dd186_170 rfl ?_
                        obtain ⟨rfl, rfl⟩ := oret h
                        exact zGo_ret dd186_209 rfl rfl
                      · refine zUT dd186_165 rfl (kcNeT hc) ?_
                        refine zGo_s (pc' := 174) (st' := [.long x0]) dd186_173 rfl ?_
                        refine zGo_s (pc' := 177) (st' := [.ref 30, .long x0]) dd186_174 rfl ?_
                        obtain ⟨v24, u23, hq, h⟩ := obnd h
                        refine zCS1 (As := [.ref 30]) (rest := [.long x0]) (q' := q_171) dd186_177 rfl rfl rfl rfl rfl (f171_ok (d := d) (by omega) (by decide) hq) ?_
                        refine zGo_s (pc' := 181) (st' := [.int (lg_cmp x0 v24)]) dd186_180 rfl ?_
                        rcases oite h with ⟨hc, h⟩ | ⟨hc, h⟩
                        · refine zUF dd186_181 (kcNeF hc) ?_
                          refine zGo_s (pc' := 186) (st' := [.int (14 : Int32)]) dd186_184 rfl ?_
                          refine zGo_s (pc' := 209) (st' := [.int (14 : Int32)]) dd186_186 rfl ?_
                          obtain ⟨rfl, rfl⟩ := oret h
                          exact zGo_ret dd186_209 rfl rfl
                        · refine zUT dd186_181 rfl (kcNeT hc) ?_
                          refine zGo_s (pc' := 190) (st' := [.long x0]) dd186_189 rfl ?_
                          refine zGo_s (pc' := 193) (st' := [.ref 31, .long x0]) dd186_190 rfl ?_
                          obtain ⟨v26, u25, hq, h⟩ := obnd h
                          refine zCS1 (As := [.ref 31]) (rest := [.long x0]) (q' := q_171) dd186_193 rfl rfl rfl rfl rfl (f171_ok (d := d) (by omega) (by decide) hq) ?_
                          refine zGo_s (pc' := 197) (st' := [.int (lg_cmp x0 v26)]) dd186_196 rfl ?_
                          rcases oite h with ⟨hc, h⟩ | ⟨hc, h⟩
                          · refine zUF dd186_197 (kcNeF hc) ?_
                            refine zGo_s (pc' := 202) (st' := [.int (15 : Int32)]) dd186_200 rfl ?_
                            refine zGo_s (pc' := 209) (st' := [.int (15 : Int32)]) dd186_202 rfl ?_
                            obtain ⟨rfl, rfl⟩ := oret h
                            exact zGo_ret dd186_209 rfl rfl
                          · refine zUT dd186_197 rfl (kcNeT hc) ?_
                            refine zGo_s (pc' := 206) (st' := [.long x0]) dd186_205 rfl ?_
                            obtain ⟨v28, u27, hq, h⟩ := obnd h
                            refine zCS1 (As := [.long x0]) (rest := []) (q' := q_187) dd186_206 rfl rfl rfl rfl rfl (f187_ok (d := d) (by omega)  hq) ?_
                            obtain ⟨rfl, rfl⟩ := oret h
                            exact zGo_ret dd186_209 rfl rfl
/-! PHModel.use(I)I -/
theorem dd189_0 : decode cX13_use 0 = .ok (.aload_n 0, 1) := by decide +kernel
theorem dd189_1 : decode cX13_use 1 = .ok (.invokevirtual 223, 3) := by decide +kernel
theorem dd189_4 : decode cX13_use 4 = .ok (.ifCond .ne 5, 3) := by decide +kernel
theorem dd189_7 : decode cX13_use 7 = .ok (.iconst 0, 1) := by decide +kernel
theorem dd189_8 : decode cX13_use 8 = .ok (.ireturn, 1) := by decide +kernel
theorem dd189_9 : decode cX13_use 9 = .ok (.aload_n 0, 1) := by decide +kernel
theorem dd189_10 : decode cX13_use 10 = .ok (.invokevirtual 246, 3) := by decide +kernel
theorem dd189_13 : decode cX13_use 13 = .ok (.ifCond .ne 9, 3) := by decide +kernel
theorem dd189_16 : decode cX13_use 16 = .ok (.aload_n 0, 1) := by decide +kernel
theorem dd189_17 : decode cX13_use 17 = .ok (.invokevirtual 234, 3) := by decide +kernel
theorem dd189_20 : decode cX13_use 20 = .ok (.iconst 0, 1) := by decide +kernel
theorem dd189_21 : decode cX13_use 21 = .ok (.ireturn, 1) := by decide +kernel
theorem dd189_22 : decode cX13_use 22 = .ok (.aload_n 0, 1) := by decide +kernel
theorem dd189_23 : decode cX13_use 23 = .ok (.getfield 24, 3) := by decide +kernel
theorem dd189_26 : decode cX13_use 26 = .ok (.astore_n 2, 1) := by decide +kernel
theorem dd189_27 : decode cX13_use 27 = .ok (.aload_n 2, 1) := by decide +kernel
theorem dd189_28 : decode cX13_use 28 = .ok (.getfield 249, 3) := by decide +kernel
theorem dd189_31 : decode cX13_use 31 = .ok (.aload_n 2, 1) := by decide +kernel
theorem dd189_32 : decode cX13_use 32 = .ok (.getfield 252, 3) := by decide +kernel
theorem dd189_35 : decode cX13_use 35 = .ok (.aload_n 0, 1) := by decide +kernel
theorem dd189_36 : decode cX13_use 36 = .ok (.getfield 186, 3) := by decide +kernel
theorem dd189_39 : decode cX13_use 39 = .ok (.lastore, 1) := by decide +kernel
theorem dd189_40 : decode cX13_use 40 = .ok (.aload_n 2, 1) := by decide +kernel
theorem dd189_41 : decode cX13_use 41 = .ok (.getfield 255, 3) := by decide +kernel
theorem dd189_44 : decode cX13_use 44 = .ok (.aload_n 2, 1) := by decide +kernel
theorem dd189_45 : decode cX13_use 45 = .ok (.getfield 252, 3) := by decide +kernel
theorem dd189_48 : decode cX13_use 48 = .ok (.aload_n 0, 1) := by decide +kernel
theorem dd189_49 : decode cX13_use 49 = .ok (.getfield 176, 3) := by decide +kernel
theorem dd189_52 : decode cX13_use 52 = .ok (.iastore, 1) := by decide +kernel
theorem dd189_53 : decode cX13_use 53 = .ok (.aload_n 2, 1) := by decide +kernel
theorem dd189_54 : decode cX13_use 54 = .ok (.getfield 258, 3) := by decide +kernel
theorem dd189_57 : decode cX13_use 57 = .ok (.aload_n 2, 1) := by decide +kernel
theorem dd189_58 : decode cX13_use 58 = .ok (.getfield 252, 3) := by decide +kernel
theorem dd189_61 : decode cX13_use 61 = .ok (.iload_n 1, 1) := by decide +kernel
theorem dd189_62 : decode cX13_use 62 = .ok (.iastore, 1) := by decide +kernel
theorem dd189_63 : decode cX13_use 63 = .ok (.aload_n 2, 1) := by decide +kernel
theorem dd189_64 : decode cX13_use 64 = .ok (.getfield 261, 3) := by decide +kernel
theorem dd189_67 : decode cX13_use 67 = .ok (.aload_n 2, 1) := by decide +kernel
theorem dd189_68 : decode cX13_use 68 = .ok (.getfield 252, 3) := by decide +kernel
theorem dd189_71 : decode cX13_use 71 = .ok (.aload_n 0, 1) := by decide +kernel
theorem dd189_72 : decode cX13_use 72 = .ok (.getfield 264, 3) := by decide +kernel
theorem dd189_75 : decode cX13_use 75 = .ok (.iastore, 1) := by decide +kernel
theorem dd189_76 : decode cX13_use 76 = .ok (.aload_n 2, 1) := by decide +kernel
theorem dd189_77 : decode cX13_use 77 = .ok (.getfield 267, 3) := by decide +kernel
theorem dd189_80 : decode cX13_use 80 = .ok (.aload_n 2, 1) := by decide +kernel
theorem dd189_81 : decode cX13_use 81 = .ok (.getfield 252, 3) := by decide +kernel
theorem dd189_84 : decode cX13_use 84 = .ok (.iconst (-1), 1) := by decide +kernel
theorem dd189_85 : decode cX13_use 85 = .ok (.iastore, 1) := by decide +kernel
theorem dd189_86 : decode cX13_use 86 = .ok (.aload_n 2, 1) := by decide +kernel
theorem dd189_87 : decode cX13_use 87 = .ok (.dup, 1) := by decide +kernel
theorem dd189_88 : decode cX13_use 88 = .ok (.getfield 252, 3) := by decide +kernel
theorem dd189_91 : decode cX13_use 91 = .ok (.iconst 1, 1) := by decide +kernel
theorem dd189_92 : decode cX13_use 92 = .ok (.iadd, 1) := by decide +kernel
theorem dd189_93 : decode cX13_use 93 = .ok (.putfield 252, 3) := by decide +kernel
theorem dd189_96 : decode cX13_use 96 = .ok (.aload_n 0, 1) := by decide +kernel
theorem dd189_97 : decode cX13_use 97 = .ok (.invokevirtual 231, 3) := by decide +kernel
theorem dd189_100 : decode cX13_use 100 = .ok (.aload_n 2, 1) := by decide +kernel
theorem dd189_101 : decode cX13_use 101 = .ok (.getfield 252, 3) := by decide +kernel
theorem dd189_104 : decode cX13_use 104 = .ok (.iconst 1, 1) := by decide +kernel
theorem dd189_105 : decode cX13_use 105 = .ok (.isub, 1) := by decide +kernel
theorem dd189_106 : decode cX13_use 106 = .ok (.ireturn, 1) := by decide +kernel
def f189 (n : Nat) (x1 : Int32) (s : zσ) : Option (Int32 × zσ) :=
    yb1 (f167 n s) fun v2 u1 =>
    if v2 = (0 : Int32) then
    some ((0 : Int32), u1)
    else yb1 (f175 n u1) fun v4 u3 =>
    if v4 = (0 : Int32) then
    yb0 (f172 n u3) fun u13 =>
    some ((0 : Int32), u13)
    else zrd 12 (u3.2.2 1132 12) fun a5 =>
    if zin? (u3.1 a5 34) 1400 = true then
    zlet (sJ u3 (a5 + 29) (nx (u3.1 a5 34)) (u3.2.1 1132 6)) fun u6 =>
    if zin? (u6.1 a5 34) 1400 = true then
    zlet (sI u6 (a5 + 30) (nx (u6.1 a5 34)) (u6.1 1132 4)) fun u7 =>
    if zin? (u7.1 a5 34) 1400 = true then
    zlet (sI u7 (a5 + 31) (nx (u7.1 a5 34)) x1) fun u8 =>
    if zin? (u8.1 a5 34) 1400 = true then
    zlet (sI u8 (a5 + 32) (nx (u8.1 a5 34)) (u8.1 1132 15)) fun u9 =>
    if zin? (u9.1 a5 34) 1400 = true then
    zlet (sI u9 (a5 + 35) (nx (u9.1 a5 34)) (-1 : Int32)) fun u10 =>
    zlet (sI u10 a5 34 ((u10.1 a5 34) + (1 : Int32))) fun u11 =>
    yb0 (f164 n u11) fun u12 =>
    some (((u12.1 a5 34) - (1 : Int32)), u12)
    else none
    else none
    else none
    else none
    else none
set_option maxRecDepth 20000 in
theorem f189_ok {n d : Nat} {x1 : Int32} {s : zσ} {v : Int32} {s2 : zσ} (hd : 8 ≤ d) (h : f189 n x1 s = some (v, s2)) {w : zσ} {fz : Bool} {L : Nat} {xs : Nat → Int32} : zGo (zX fz L xs) d q_189 (0, [(0, .ref 1132), (1, .int x1)], [], zmk w s, 0, 0) (some (.int v), zmk w s2, 0, 0) := by
  obtain ⟨d, rfl⟩ : ∃ d0, d = d0 + 1 := ⟨d - 1, by omega⟩
  unfold f189 at h
  refine zGo_s (pc' := 1) (st' := [.ref 1132]) dd189_0 rfl ?_
  obtain ⟨v2, u1, hq, h⟩ := obnd h
  refine zCV1 (As := []) (rest := []) (b := 1132) (q' := q_167) dd189_1 rfl rfl (rcv_m rfl rfl (by decide)) rfl rfl rfl (f167_ok (d := d) (by omega)  hq) ?_
  rcases oite h with ⟨hc, h⟩ | ⟨hc, h⟩
  · refine zUF dd189_4 (kNeF hc) ?_
    refine zGo_s (pc' := 8) (st' := [.int (0 : Int32)]) dd189_7 rfl ?_
    obtain ⟨rfl, rfl⟩ := oret h
    exact zGo_ret dd189_8 rfl rfl
  · refine zUT dd189_4 rfl (kNeT hc) ?_
    refine zGo_s (pc' := 10) (st' := [.ref 1132]) dd189_9 rfl ?_
    obtain ⟨v4, u3, hq, h⟩ := obnd h
    refine zCV1 (As := []) (rest := []) (b := 1132) (q' := q_175) dd189_10 rfl rfl (rcv_m rfl rfl (by decide)) rfl rfl rfl (f175_ok (d := d) (by omega)  hq) ?_
    rcases oite h with ⟨hc, h⟩ | ⟨hc, h⟩
    · refine zUF dd189_13 (kNeF hc) ?_
      refine zGo_s (pc' := 17) (st' := [.ref 1132]) dd189_16 rfl ?_
      obtain ⟨u13, hq, h⟩ := obn0 h
      refine zCV0 (As := []) (rest := []) (b := 1132) (q' := q_172) dd189_17 rfl rfl (rcv_m rfl rfl (by decide)) rfl rfl rfl (f172_ok (d := d) (by omega)  hq) ?_
      refine zGo_s (pc' := 21) (st' := [.int (0 : Int32)]) dd189_20 rfl ?_
      obtain ⟨rfl, rfl⟩ := oret h
      exact zGo_ret dd189_21 rfl rfl
    · refine zUT dd189_13 rfl (kNeT hc) ?_
      refine zGo_s (pc' := 23) (st' := [.ref 1132]) dd189_22 rfl ?_
      obtain ⟨a5, e_a5, c_a5, h⟩ := ordd h
      refine mGR dd189_23 rfl rfl rfl rfl e_a5 ?_
      refine zGo_s (pc' := 27) (st' := []) (lv' := [(2, .ref a5), (0, .ref 1132), (1, .int x1)]) dd189_26 rfl ?_
      refine zGo_s (pc' := 28) (st' := [.ref a5]) dd189_27 rfl ?_
      refine mGF (e := (a5 + 29)) dd189_28 rfl (ck12_s c_a5).1 (ck12_s c_a5).2 rfl (cf12_35 c_a5).1 ?_
      refine zGo_s (pc' := 32) (st' := [.ref a5, .ref (a5 + 29)]) dd189_31 rfl ?_
      refine mGI dd189_32 rfl (ck12_s c_a5).1 (ck12_s c_a5).2 rfl ?_
      refine zGo_s (pc' := 36) (st' := [.ref 1132, .int (u3.1 a5 34), .ref (a5 + 29)]) dd189_35 rfl ?_
      refine mGJ dd189_36 rfl rfl rfl rfl ?_
      obtain ⟨hi, h⟩ := ochk h
      obtain ⟨u6, e_u6, h⟩ := olet h
      refine mLS dd189_39 (cf12_35 c_a5).2.1 (cf12_35 c_a5).2.2 hi e_u6 ?_
      refine zGo_s (pc' := 41) (st' := [.ref a5]) dd189_40 rfl ?_
      refine mGF (e := (a5 + 30)) dd189_41 rfl (ck12_s c_a5).1 (ck12_s c_a5).2 rfl (cf12_36 c_a5).1 ?_
      refine zGo_s (pc' := 45) (st' := [.ref a5, .ref (a5 + 30)]) dd189_44 rfl ?_
      refine mGI dd189_45 rfl (ck12_s c_a5).1 (ck12_s c_a5).2 rfl ?_
      refine zGo_s (pc' := 49) (st' := [.ref 1132, .int (u6.1 a5 34), .ref (a5 + 30)]) dd189_48 rfl ?_
      refine mGI dd189_49 rfl rfl rfl rfl ?_
      obtain ⟨hi, h⟩ := ochk h
      obtain ⟨u7, e_u7, h⟩ := olet h
      refine mIS dd189_52 (cf12_36 c_a5).2.1 (cf12_36 c_a5).2.2 hi e_u7 ?_
      refine zGo_s (pc' := 54) (st' := [.ref a5]) dd189_53 rfl ?_
      refine mGF (e := (a5 + 31)) dd189_54 rfl (ck12_s c_a5).1 (ck12_s c_a5).2 rfl (cf12_37 c_a5).1 ?_
      refine zGo_s (pc' := 58) (st' := [.ref a5, .ref (a5 + 31)]) dd189_57 rfl ?_
      refine mGI dd189_58 rfl (ck12_s c_a5).1 (ck12_s c_a5).2 rfl ?_
      refine zGo_s (pc' := 62) (st' := [.int x1, .int (u7.1 a5 34), .ref (a5 + 31)]) dd189_61 rfl ?_
      obtain ⟨hi, h⟩ := ochk h
      obtain ⟨u8, e_u8, h⟩ := olet h
      refine mIS dd189_62 (cf12_37 c_a5).2.1 (cf12_37 c_a5).2.2 hi e_u8 ?_
      refine zGo_s (pc' := 64) (st' := [.ref a5]) dd189_63 rfl ?_
      refine mGF (e := (a5 + 32)) dd189_64 rfl (ck12_s c_a5).1 (ck12_s c_a5).2 rfl (cf12_38 c_a5).1 ?_
      refine zGo_s (pc' := 68) (st' := [.ref a5, .ref (a5 + 32)]) dd189_67 rfl ?_
      refine mGI dd189_68 rfl (ck12_s c_a5).1 (ck12_s c_a5).2 rfl ?_
      refine zGo_s (pc' := 72) (st' := [.ref 1132, .int (u8.1 a5 34), .ref (a5 + 32)]) dd189_71 rfl ?_
      refine mGI dd189_72 rfl rfl rfl rfl ?_
      obtain ⟨hi, h⟩ := ochk h
      obtain ⟨u9, e_u9, h⟩ := olet h
      refine mIS dd189_75 (cf12_38 c_a5).2.1 (cf12_38 c_a5).2.2 hi e_u9 ?_
      refine zGo_s (pc' := 77) (st' := [.ref a5]) dd189_76 rfl ?_
      refine mGF (e := (a5 + 35)) dd189_77 rfl (ck12_s c_a5).1 (ck12_s c_a5).2 rfl (cf12_41 c_a5).1 ?_
      refine zGo_s (pc' := 81) (st' := [.ref a5, .ref (a5 + 35)]) dd189_80 rfl ?_
      refine mGI dd189_81 rfl (ck12_s c_a5).1 (ck12_s c_a5).2 rfl ?_
      refine zGo_s (pc' := 85) (st' := [.int (-1 : Int32), .int (u9.1 a5 34), .ref (a5 + 35)]) dd189_84 rfl ?_
      obtain ⟨hi, h⟩ := ochk h
      obtain ⟨u10, e_u10, h⟩ := olet h
      refine mIS dd189_85 (cf12_41 c_a5).2.1 (cf12_41 c_a5).2.2 hi e_u10 ?_
      refine zGo_s (pc' := 87) (st' := [.ref a5]) dd189_86 rfl ?_
      refine zGo_s (pc' := 88) (st' := [.ref a5, .ref a5]) dd189_87 rfl ?_
      refine mGI dd189_88 rfl (ck12_s c_a5).1 (ck12_s c_a5).2 rfl ?_
      refine zGo_s (pc' := 92) (st' := [.int (1 : Int32), .int (u10.1 a5 34), .ref a5]) dd189_91 rfl ?_
      refine zGo_s (pc' := 93) (st' := [.int ((u10.1 a5 34) + (1 : Int32)), .ref a5]) dd189_92 rfl ?_
      obtain ⟨u11, e_u11, h⟩ := olet h
      refine mPI dd189_93 rfl (ck12_s c_a5).1 (ck12_s c_a5).2 rfl rfl rfl e_u11 ?_
      refine zGo_s (pc' := 97) (st' := [.ref 1132]) dd189_96 rfl ?_
      obtain ⟨u12, hq, h⟩ := obn0 h
      refine zCV0 (As := []) (rest := []) (b := 1132) (q' := q_164) dd189_97 rfl rfl (rcv_m rfl rfl (by decide)) rfl rfl rfl (f164_ok (d := d) (by omega)  hq) ?_
      refine zGo_s (pc' := 101) (st' := [.ref a5]) dd189_100 rfl ?_
      refine mGI dd189_101 rfl (ck12_s c_a5).1 (ck12_s c_a5).2 rfl ?_
      refine zGo_s (pc' := 105) (st' := [.int (1 : Int32), .int (u12.1 a5 34)]) dd189_104 rfl ?_
      refine zGo_s (pc' := 106) (st' := [.int ((u12.1 a5 34) - (1 : Int32))]) dd189_105 rfl ?_
      obtain ⟨rfl, rfl⟩ := oret h
      exact zGo_ret dd189_106 rfl rfl
/-! PHModel.node()V -/
theorem dd195_0 : decode cX13_node 0 = .ok (.aload_n 0, 1) := by decide +kernel
theorem dd195_1 : decode cX13_node 1 = .ok (.invokevirtual 223, 3) := by decide +kernel
theorem dd195_4 : decode cX13_node 4 = .ok (.ifCond .eq 25, 3) := by decide +kernel
theorem dd195_7 : decode cX13_node 7 = .ok (.aload_n 0, 1) := by decide +kernel
theorem dd195_8 : decode cX13_node 8 = .ok (.getfield 24, 3) := by decide +kernel
theorem dd195_11 : decode cX13_node 11 = .ok (.getfield 285, 3) := by decide +kernel
theorem dd195_14 : decode cX13_node 14 = .ok (.sipush 400, 3) := by decide +kernel
theorem dd195_17 : decode cX13_node 17 = .ok (.if_icmp .ne 12, 3) := by decide +kernel
theorem dd195_20 : decode cX13_node 20 = .ok (.aload_n 0, 1) := by decide +kernel
theorem dd195_21 : decode cX13_node 21 = .ok (.iconst 3, 1) := by decide +kernel
theorem dd195_22 : decode cX13_node 22 = .ok (.aload_n 0, 1) := by decide +kernel
theorem dd195_23 : decode cX13_node 23 = .ok (.getfield 176, 3) := by decide +kernel
theorem dd195_26 : decode cX13_node 26 = .ok (.invokevirtual 215, 3) := by decide +kernel
theorem dd195_29 : decode cX13_node 29 = .ok (.aload_n 0, 1) := by decide +kernel
theorem dd195_30 : decode cX13_node 30 = .ok (.getfield 24, 3) := by decide +kernel
theorem dd195_33 : decode cX13_node 33 = .ok (.dup, 1) := by decide +kernel
theorem dd195_34 : decode cX13_node 34 = .ok (.getfield 285, 3) := by decide +kernel
theorem dd195_37 : decode cX13_node 37 = .ok (.aload_n 0, 1) := by decide +kernel
theorem dd195_38 : decode cX13_node 38 = .ok (.invokevirtual 223, 3) := by decide +kernel
theorem dd195_41 : decode cX13_node 41 = .ok (.ifCond .eq 7, 3) := by decide +kernel
theorem dd195_44 : decode cX13_node 44 = .ok (.iconst 1, 1) := by decide +kernel
theorem dd195_45 : decode cX13_node 45 = .ok (.goto 4, 3) := by decide +kernel
theorem dd195_48 : decode cX13_node 48 = .ok (.iconst 0, 1) := by decide +kernel
theorem dd195_49 : decode cX13_node 49 = .ok (.iadd, 1) := by decide +kernel
theorem dd195_50 : decode cX13_node 50 = .ok (.putfield 285, 3) := by decide +kernel
theorem dd195_53 : decode cX13_node 53 = .ok (.return_, 1) := by decide +kernel
def f195_49 (n : Nat) (y0 : Int32) (y1 : Int32) (y2 : Nat) (s : zσ) : Option zσ :=
    zlet (sI s y2 27 (y1 + y0)) fun u1 =>
    some u1
set_option maxRecDepth 20000 in
theorem f195_49_ok {n d : Nat} {y0 : Int32} {y1 : Int32} {y2 : Nat} {s : zσ} {s2 : zσ} (hd : 1 ≤ d) (hy2 : zck 12 y2 = true) (h : f195_49 n y0 y1 y2 s = some s2) {w : zσ} {fz : Bool} {L : Nat} {xs : Nat → Int32} : zGo (zX fz L xs) d q_195 (49, [], [.int y0, .int y1, .ref y2], zmk w s, 0, 0) (none, zmk w s2, 0, 0) := by
  obtain ⟨d, rfl⟩ : ∃ d0, d = d0 + 1 := ⟨d - 1, by omega⟩
  unfold f195_49 at h
  refine zGo_s (pc' := 50) (st' := [.int (y1 + y0), .ref y2]) dd195_49 rfl ?_
  obtain ⟨u1, e_u1, h⟩ := olet h
  refine mPI dd195_50 rfl (ck12_s hy2).1 (ck12_s hy2).2 rfl rfl rfl e_u1 ?_
  obtain rfl := ore0 h
  exact zGo_ret dd195_53 rfl rfl
def f195_29 (n : Nat) (s : zσ) : Option zσ :=
    zrd 12 (s.2.2 1132 12) fun a1 =>
    yb1 (f167 n s) fun v3 u2 =>
    if v3 = (0 : Int32) then
    f195_49 n (0 : Int32) (s.1 a1 27) a1 u2
    else f195_49 n (1 : Int32) (s.1 a1 27) a1 u2
set_option maxRecDepth 20000 in
theorem f195_29_ok {n d : Nat} {s : zσ} {s2 : zσ} (hd : 1 ≤ d) (h : f195_29 n s = some s2) {w : zσ} {fz : Bool} {L : Nat} {xs : Nat → Int32} : zGo (zX fz L xs) d q_195 (29, [(0, .ref 1132)], [], zmk w s, 0, 0) (none, zmk w s2, 0, 0) := by
  obtain ⟨d, rfl⟩ : ∃ d0, d = d0 + 1 := ⟨d - 1, by omega⟩
  unfold f195_29 at h
  refine zGo_s (pc' := 30) (st' := [.ref 1132]) dd195_29 rfl ?_
  obtain ⟨a1, e_a1, c_a1, h⟩ := ordd h
  refine mGR dd195_30 rfl rfl rfl rfl e_a1 ?_
  refine zGo_s (pc' := 34) (st' := [.ref a1, .ref a1]) dd195_33 rfl ?_
  refine mGI dd195_34 rfl (ck12_s c_a1).1 (ck12_s c_a1).2 rfl ?_
  refine zGo_s (pc' := 38) (st' := [.ref 1132, .int (s.1 a1 27), .ref a1]) dd195_37 rfl ?_
  obtain ⟨v3, u2, hq, h⟩ := obnd h
  refine zCV1 (As := []) (rest := [.int (s.1 a1 27), .ref a1]) (b := 1132) (q' := q_167) dd195_38 rfl rfl (rcv_m rfl rfl (by decide)) rfl rfl rfl (f167_ok (d := d) (by omega)  hq) ?_
  rcases oite h with ⟨hc, h⟩ | ⟨hc, h⟩
  · refine zUT dd195_41 rfl (kEqT hc) ?_
    refine zGo_s (pc' := 49) (st' := [.int (0 : Int32), .int (s.1 a1 27), .ref a1]) dd195_48 rfl ?_
    exact zGo_lv (lv := []) ⟨by simp, by simp, by simp⟩ (f195_49_ok hd c_a1 h)
  · refine zUF dd195_41 (kEqF hc) ?_
    refine zGo_s (pc' := 45) (st' := [.int (1 : Int32), .int (s.1 a1 27), .ref a1]) dd195_44 rfl ?_
    refine zGo_s (pc' := 49) (st' := [.int (1 : Int32), .int (s.1 a1 27), .ref a1]) dd195_45 rfl ?_
    exact zGo_lv (lv := []) ⟨by simp, by simp, by simp⟩ (f195_49_ok hd c_a1 h)
def f195 (n : Nat) (s : zσ) : Option zσ :=
    yb1 (f167 n s) fun v2 u1 =>
    if v2 = (0 : Int32) then
    f195_29 n u1
    else zrd 12 (u1.2.2 1132 12) fun a3 =>
    if (u1.1 a3 27) = (400 : Int32) then
    yb0 (f173 n (3 : Int32) (u1.1 1132 4) u1) fun u4 =>
    f195_29 n u4
    else f195_29 n u1
set_option maxRecDepth 20000 in
theorem f195_ok {n d : Nat} {s : zσ} {s2 : zσ} (hd : 1 ≤ d) (h : f195 n s = some s2) {w : zσ} {fz : Bool} {L : Nat} {xs : Nat → Int32} : zGo (zX fz L xs) d q_195 (0, [(0, .ref 1132)], [], zmk w s, 0, 0) (none, zmk w s2, 0, 0) := by
  obtain ⟨d, rfl⟩ : ∃ d0, d = d0 + 1 := ⟨d - 1, by omega⟩
  unfold f195 at h
  refine zGo_s (pc' := 1) (st' := [.ref 1132]) dd195_0 rfl ?_
  obtain ⟨v2, u1, hq, h⟩ := obnd h
  refine zCV1 (As := []) (rest := []) (b := 1132) (q' := q_167) dd195_1 rfl rfl (rcv_m rfl rfl (by decide)) rfl rfl rfl (f167_ok (d := d) (by omega)  hq) ?_
  rcases oite h with ⟨hc, h⟩ | ⟨hc, h⟩
  · refine zUT dd195_4 rfl (kEqT hc) ?_
    exact f195_29_ok hd h
  · refine zUF dd195_4 (kEqF hc) ?_
    refine zGo_s (pc' := 8) (st' := [.ref 1132]) dd195_7 rfl ?_
    obtain ⟨a3, e_a3, c_a3, h⟩ := ordd h
    refine mGR dd195_8 rfl rfl rfl rfl e_a3 ?_
    refine mGI dd195_11 rfl (ck12_s c_a3).1 (ck12_s c_a3).2 rfl ?_
    refine zGo_s (pc' := 17) (st' := [.int (400 : Int32), .int (u1.1 a3 27)]) dd195_14 rfl ?_
    rcases oite h with ⟨hc, h⟩ | ⟨hc, h⟩
    · refine zIF dd195_17 (kNeF hc) ?_
      refine zGo_s (pc' := 21) (st' := [.ref 1132]) dd195_20 rfl ?_
      refine zGo_s (pc' := 22) (st' := [.int (3 : Int32), .ref 1132]) dd195_21 rfl ?_
      refine zGo_s (pc' := 23) (st' := [.ref 1132, .int (3 : Int32), .ref 1132]) dd195_22 rfl ?_
      refine mGI dd195_23 rfl rfl rfl rfl ?_
      obtain ⟨u4, hq, h⟩ := obn0 h
      refine zCV0 (As := [.int (3 : Int32), .int (u1.1 1132 4)]) (rest := []) (b := 1132) (q' := q_173) dd195_26 rfl rfl (rcv_m rfl rfl (by decide)) rfl rfl rfl (f173_ok (d := d) (by omega)  hq) ?_
      exact f195_29_ok hd h
    · refine zIT dd195_17 rfl (kNeT hc) ?_
      exact f195_29_ok hd h
/-! PHModel.code(II)V -/
theorem dd196_0 : decode cX13_code 0 = .ok (.aload_n 0, 1) := by decide +kernel
theorem dd196_1 : decode cX13_code 1 = .ok (.invokevirtual 223, 3) := by decide +kernel
theorem dd196_4 : decode cX13_code 4 = .ok (.ifCond .eq 48, 3) := by decide +kernel
theorem dd196_7 : decode cX13_code 7 = .ok (.aload_n 0, 1) := by decide +kernel
theorem dd196_8 : decode cX13_code 8 = .ok (.getfield 24, 3) := by decide +kernel
theorem dd196_11 : decode cX13_code 11 = .ok (.getfield 288, 3) := by decide +kernel
theorem dd196_14 : decode cX13_code 14 = .ok (.aload_n 0, 1) := by decide +kernel
theorem dd196_15 : decode cX13_code 15 = .ok (.getfield 24, 3) := by decide +kernel
theorem dd196_18 : decode cX13_code 18 = .ok (.getfield 291, 3) := by decide +kernel
theorem dd196_21 : decode cX13_code 21 = .ok (.iload_n 1, 1) := by decide +kernel
theorem dd196_22 : decode cX13_code 22 = .ok (.iastore, 1) := by decide +kernel
theorem dd196_23 : decode cX13_code 23 = .ok (.aload_n 0, 1) := by decide +kernel
theorem dd196_24 : decode cX13_code 24 = .ok (.getfield 24, 3) := by decide +kernel
theorem dd196_27 : decode cX13_code 27 = .ok (.getfield 294, 3) := by decide +kernel
theorem dd196_30 : decode cX13_code 30 = .ok (.aload_n 0, 1) := by decide +kernel
theorem dd196_31 : decode cX13_code 31 = .ok (.getfield 24, 3) := by decide +kernel
theorem dd196_34 : decode cX13_code 34 = .ok (.getfield 291, 3) := by decide +kernel
theorem dd196_37 : decode cX13_code 37 = .ok (.iload_n 2, 1) := by decide +kernel
theorem dd196_38 : decode cX13_code 38 = .ok (.iastore, 1) := by decide +kernel
theorem dd196_39 : decode cX13_code 39 = .ok (.aload_n 0, 1) := by decide +kernel
theorem dd196_40 : decode cX13_code 40 = .ok (.getfield 24, 3) := by decide +kernel
theorem dd196_43 : decode cX13_code 43 = .ok (.dup, 1) := by decide +kernel
theorem dd196_44 : decode cX13_code 44 = .ok (.getfield 291, 3) := by decide +kernel
theorem dd196_47 : decode cX13_code 47 = .ok (.iconst 1, 1) := by decide +kernel
theorem dd196_48 : decode cX13_code 48 = .ok (.iadd, 1) := by decide +kernel
theorem dd196_49 : decode cX13_code 49 = .ok (.putfield 291, 3) := by decide +kernel
theorem dd196_52 : decode cX13_code 52 = .ok (.return_, 1) := by decide +kernel
def f196 (n : Nat) (x1 : Int32) (x2 : Int32) (s : zσ) : Option zσ :=
    yb1 (f167 n s) fun v2 u1 =>
    if v2 = (0 : Int32) then
    some u1
    else zrd 12 (u1.2.2 1132 12) fun a3 =>
    zrd 12 (u1.2.2 1132 12) fun a4 =>
    if zin? (u1.1 a4 31) 900 = true then
    zlet (sI u1 (a3 + 27) (nx (u1.1 a4 31)) x1) fun u5 =>
    zrd 12 (u5.2.2 1132 12) fun a6 =>
    zrd 12 (u5.2.2 1132 12) fun a7 =>
    if zin? (u5.1 a7 31) 900 = true then
    zlet (sI u5 (a6 + 28) (nx (u5.1 a7 31)) x2) fun u8 =>
    zrd 12 (u8.2.2 1132 12) fun a9 =>
    zlet (sI u8 a9 31 ((u8.1 a9 31) + (1 : Int32))) fun u10 =>
    some u10
    else none
    else none
set_option maxRecDepth 20000 in
theorem f196_ok {n d : Nat} {x1 : Int32} {x2 : Int32} {s : zσ} {s2 : zσ} (hd : 1 ≤ d) (h : f196 n x1 x2 s = some s2) {w : zσ} {fz : Bool} {L : Nat} {xs : Nat → Int32} : zGo (zX fz L xs) d q_196 (0, [(0, .ref 1132), (1, .int x1), (2, .int x2)], [], zmk w s, 0, 0) (none, zmk w s2, 0, 0) := by
  obtain ⟨d, rfl⟩ : ∃ d0, d = d0 + 1 := ⟨d - 1, by omega⟩
  unfold f196 at h
  refine zGo_s (pc' := 1) (st' := [.ref 1132]) dd196_0 rfl ?_
  obtain ⟨v2, u1, hq, h⟩ := obnd h
  refine zCV1 (As := []) (rest := []) (b := 1132) (q' := q_167) dd196_1 rfl rfl (rcv_m rfl rfl (by decide)) rfl rfl rfl (f167_ok (d := d) (by omega)  hq) ?_
  rcases oite h with ⟨hc, h⟩ | ⟨hc, h⟩
  · refine zUT dd196_4 rfl (kEqT hc) ?_
    obtain rfl := ore0 h
    exact zGo_ret dd196_52 rfl rfl
  · refine zUF dd196_4 (kEqF hc) ?_
    refine zGo_s (pc' := 8) (st' := [.ref 1132]) dd196_7 rfl ?_
    obtain ⟨a3, e_a3, c_a3, h⟩ := ordd h
    refine mGR dd196_8 rfl rfl rfl rfl e_a3 ?_
    refine mGF (e := (a3 + 27)) dd196_11 rfl (ck12_s c_a3).1 (ck12_s c_a3).2 rfl (cf12_32 c_a3).1 ?_
    refine zGo_s (pc' := 15) (st' := [.ref 1132, .ref (a3 + 27)]) dd196_14 rfl ?_
    obtain ⟨a4, e_a4, c_a4, h⟩ := ordd h
    refine mGR dd196_15 rfl rfl rfl rfl e_a4 ?_
    refine mGI dd196_18 rfl (ck12_s c_a4).1 (ck12_s c_a4).2 rfl ?_
    refine zGo_s (pc' := 22) (st' := [.int x1, .int (u1.1 a4 31), .ref (a3 + 27)]) dd196_21 rfl ?_
    obtain ⟨hi, h⟩ := ochk h
    obtain ⟨u5, e_u5, h⟩ := olet h
    refine mIS dd196_22 (cf12_32 c_a3).2.1 (cf12_32 c_a3).2.2 hi e_u5 ?_
    refine zGo_s (pc' := 24) (st' := [.ref 1132]) dd196_23 rfl ?_
    obtain ⟨a6, e_a6, c_a6, h⟩ := ordd h
    refine mGR dd196_24 rfl rfl rfl rfl e_a6 ?_
    refine mGF (e := (a6 + 28)) dd196_27 rfl (ck12_s c_a6).1 (ck12_s c_a6).2 rfl (cf12_33 c_a6).1 ?_
    refine zGo_s (pc' := 31) (st' := [.ref 1132, .ref (a6 + 28)]) dd196_30 rfl ?_
    obtain ⟨a7, e_a7, c_a7, h⟩ := ordd h
    refine mGR dd196_31 rfl rfl rfl rfl e_a7 ?_
    refine mGI dd196_34 rfl (ck12_s c_a7).1 (ck12_s c_a7).2 rfl ?_
    refine zGo_s (pc' := 38) (st' := [.int x2, .int (u5.1 a7 31), .ref (a6 + 28)]) dd196_37 rfl ?_
    obtain ⟨hi, h⟩ := ochk h
    obtain ⟨u8, e_u8, h⟩ := olet h
    refine mIS dd196_38 (cf12_33 c_a6).2.1 (cf12_33 c_a6).2.2 hi e_u8 ?_
    refine zGo_s (pc' := 40) (st' := [.ref 1132]) dd196_39 rfl ?_
    obtain ⟨a9, e_a9, c_a9, h⟩ := ordd h
    refine mGR dd196_40 rfl rfl rfl rfl e_a9 ?_
    refine zGo_s (pc' := 44) (st' := [.ref a9, .ref a9]) dd196_43 rfl ?_
    refine mGI dd196_44 rfl (ck12_s c_a9).1 (ck12_s c_a9).2 rfl ?_
    refine zGo_s (pc' := 48) (st' := [.int (1 : Int32), .int (u8.1 a9 31), .ref a9]) dd196_47 rfl ?_
    refine zGo_s (pc' := 49) (st' := [.int ((u8.1 a9 31) + (1 : Int32)), .ref a9]) dd196_48 rfl ?_
    obtain ⟨u10, e_u10, h⟩ := olet h
    refine mPI dd196_49 rfl (ck12_s c_a9).1 (ck12_s c_a9).2 rfl rfl rfl e_u10 ?_
    obtain rfl := ore0 h
    exact zGo_ret dd196_52 rfl rfl
