/-! PH$Reader.assignment(I)V -/
theorem dd59_0 : decode cX4_assignment 0 = .ok (.aload_n 0, 1) := by decide +kernel
theorem dd59_1 : decode cX4_assignment 1 = .ok (.getfield 54, 3) := by decide +kernel
theorem dd59_4 : decode cX4_assignment 4 = .ok (.invokevirtual 232, 3) := by decide +kernel
theorem dd59_7 : decode cX4_assignment 7 = .ok (.bipush 91, 2) := by decide +kernel
theorem dd59_9 : decode cX4_assignment 9 = .ok (.if_icmp .ne 68, 3) := by decide +kernel
theorem dd59_12 : decode cX4_assignment 12 = .ok (.aload_n 0, 1) := by decide +kernel
theorem dd59_13 : decode cX4_assignment 13 = .ok (.getfield 27, 3) := by decide +kernel
theorem dd59_16 : decode cX4_assignment 16 = .ok (.getfield 212, 3) := by decide +kernel
theorem dd59_19 : decode cX4_assignment 19 = .ok (.iload_n 1, 1) := by decide +kernel
theorem dd59_20 : decode cX4_assignment 20 = .ok (.bipush 91, 2) := by decide +kernel
theorem dd59_22 : decode cX4_assignment 22 = .ok (.iastore, 1) := by decide +kernel
theorem dd59_23 : decode cX4_assignment 23 = .ok (.aload_n 0, 1) := by decide +kernel
theorem dd59_24 : decode cX4_assignment 24 = .ok (.getfield 27, 3) := by decide +kernel
theorem dd59_27 : decode cX4_assignment 27 = .ok (.getfield 226, 3) := by decide +kernel
theorem dd59_30 : decode cX4_assignment 30 = .ok (.iload_n 1, 1) := by decide +kernel
theorem dd59_31 : decode cX4_assignment 31 = .ok (.aload_n 0, 1) := by decide +kernel
theorem dd59_32 : decode cX4_assignment 32 = .ok (.iconst 1, 1) := by decide +kernel
theorem dd59_33 : decode cX4_assignment 33 = .ok (.invokevirtual 236, 3) := by decide +kernel
theorem dd59_36 : decode cX4_assignment 36 = .ok (.iastore, 1) := by decide +kernel
theorem dd59_37 : decode cX4_assignment 37 = .ok (.aload_n 0, 1) := by decide +kernel
theorem dd59_38 : decode cX4_assignment 38 = .ok (.bipush 91, 2) := by decide +kernel
theorem dd59_40 : decode cX4_assignment 40 = .ok (.invokevirtual 168, 3) := by decide +kernel
theorem dd59_43 : decode cX4_assignment 43 = .ok (.ifCond .eq 23, 3) := by decide +kernel
theorem dd59_46 : decode cX4_assignment 46 = .ok (.aload_n 0, 1) := by decide +kernel
theorem dd59_47 : decode cX4_assignment 47 = .ok (.invokevirtual 223, 3) := by decide +kernel
theorem dd59_50 : decode cX4_assignment 50 = .ok (.aload_n 0, 1) := by decide +kernel
theorem dd59_51 : decode cX4_assignment 51 = .ok (.bipush 93, 2) := by decide +kernel
theorem dd59_53 : decode cX4_assignment 53 = .ok (.invokevirtual 125, 3) := by decide +kernel
theorem dd59_56 : decode cX4_assignment 56 = .ok (.aload_n 0, 1) := by decide +kernel
theorem dd59_57 : decode cX4_assignment 57 = .ok (.dup, 1) := by decide +kernel
theorem dd59_58 : decode cX4_assignment 58 = .ok (.getfield 42, 3) := by decide +kernel
theorem dd59_61 : decode cX4_assignment 61 = .ok (.iconst 1, 1) := by decide +kernel
theorem dd59_62 : decode cX4_assignment 62 = .ok (.isub, 1) := by decide +kernel
theorem dd59_63 : decode cX4_assignment 63 = .ok (.putfield 42, 3) := by decide +kernel
theorem dd59_66 : decode cX4_assignment 66 = .ok (.aload_n 0, 1) := by decide +kernel
theorem dd59_67 : decode cX4_assignment 67 = .ok (.bipush 61, 2) := by decide +kernel
theorem dd59_69 : decode cX4_assignment 69 = .ok (.invokevirtual 125, 3) := by decide +kernel
theorem dd59_72 : decode cX4_assignment 72 = .ok (.aload_n 0, 1) := by decide +kernel
theorem dd59_73 : decode cX4_assignment 73 = .ok (.invokevirtual 223, 3) := by decide +kernel
theorem dd59_76 : decode cX4_assignment 76 = .ok (.return_, 1) := by decide +kernel
theorem dd59_77 : decode cX4_assignment 77 = .ok (.aload_n 0, 1) := by decide +kernel
theorem dd59_78 : decode cX4_assignment 78 = .ok (.getfield 27, 3) := by decide +kernel
theorem dd59_81 : decode cX4_assignment 81 = .ok (.getfield 226, 3) := by decide +kernel
theorem dd59_84 : decode cX4_assignment 84 = .ok (.iload_n 1, 1) := by decide +kernel
theorem dd59_85 : decode cX4_assignment 85 = .ok (.aload_n 0, 1) := by decide +kernel
theorem dd59_86 : decode cX4_assignment 86 = .ok (.bipush 9, 2) := by decide +kernel
theorem dd59_88 : decode cX4_assignment 88 = .ok (.invokevirtual 236, 3) := by decide +kernel
theorem dd59_91 : decode cX4_assignment 91 = .ok (.iastore, 1) := by decide +kernel
theorem dd59_92 : decode cX4_assignment 92 = .ok (.aload_n 0, 1) := by decide +kernel
theorem dd59_93 : decode cX4_assignment 93 = .ok (.bipush 61, 2) := by decide +kernel
theorem dd59_95 : decode cX4_assignment 95 = .ok (.invokevirtual 125, 3) := by decide +kernel
theorem dd59_98 : decode cX4_assignment 98 = .ok (.aload_n 0, 1) := by decide +kernel
theorem dd59_99 : decode cX4_assignment 99 = .ok (.sipush 149, 3) := by decide +kernel
theorem dd59_102 : decode cX4_assignment 102 = .ok (.invokevirtual 110, 3) := by decide +kernel
theorem dd59_105 : decode cX4_assignment 105 = .ok (.ifCond .eq 18, 3) := by decide +kernel
theorem dd59_108 : decode cX4_assignment 108 = .ok (.aload_n 0, 1) := by decide +kernel
theorem dd59_109 : decode cX4_assignment 109 = .ok (.getfield 27, 3) := by decide +kernel
theorem dd59_112 : decode cX4_assignment 112 = .ok (.getfield 212, 3) := by decide +kernel
theorem dd59_115 : decode cX4_assignment 115 = .ok (.iload_n 1, 1) := by decide +kernel
theorem dd59_116 : decode cX4_assignment 116 = .ok (.sipush 149, 3) := by decide +kernel
theorem dd59_119 : decode cX4_assignment 119 = .ok (.iastore, 1) := by decide +kernel
theorem dd59_120 : decode cX4_assignment 120 = .ok (.goto 7, 3) := by decide +kernel
theorem dd59_123 : decode cX4_assignment 123 = .ok (.aload_n 0, 1) := by decide +kernel
theorem dd59_124 : decode cX4_assignment 124 = .ok (.invokevirtual 223, 3) := by decide +kernel
theorem dd59_127 : decode cX4_assignment 127 = .ok (.return_, 1) := by decide +kernel
def f59_66 (n : Nat) (s : zσ) : Option zσ :=
    yb0 (f37 n (61 : Int32) s) fun u1 =>
    yb0 (f49 n (f52 n 20) u1) fun u2 =>
    some u2
set_option maxRecDepth 20000 in
theorem f59_66_ok {n d : Nat} {s : zσ} {s2 : zσ} (hd : 138 ≤ d) (h : f59_66 n s = some s2) {w : zσ} {fz : Bool} {L : Nat} {xs : Nat → Int32} : zGo (zX fz L xs) d q_59 (66, [(0, .ref 1004)], [], zmk s w, 0, 0) (none, zmk s2 w, 0, 0) := by
  obtain ⟨d, rfl⟩ : ∃ d0, d = d0 + 1 := ⟨d - 1, by omega⟩
  unfold f59_66 at h
  refine zGo_s (pc' := 67) (st' := [.ref 1004]) dd59_66 rfl ?_
  refine zGo_s (pc' := 69) (st' := [.int (61 : Int32), .ref 1004]) dd59_67 rfl ?_
  obtain ⟨u1, hq, h⟩ := obn0 h
  refine zCV0 (As := [.int (61 : Int32)]) (rest := []) (b := 1004) (q' := q_37) dd59_69 rfl rfl (rcv_c rfl rfl (by decide)) rfl rfl rfl (f37_ok (d := d) (by omega)  hq) ?_
  refine zGo_s (pc' := 73) (st' := [.ref 1004]) dd59_72 rfl ?_
  obtain ⟨u2, hq, h⟩ := obn0 h
  refine zCV0 (As := []) (rest := []) (b := 1004) (q' := q_49) dd59_73 rfl rfl (rcv_c rfl rfl (by decide)) rfl rfl rfl (f49_ok (d := d) (Df := 134) (by omega) f52_okk20  hq) ?_
  obtain rfl := ore0 h
  exact zGo_ret dd59_76 rfl rfl
def f59 (n : Nat) (x1 : Int32) (s : zσ) : Option zσ :=
    yb1 (f56 n s) fun v2 u1 =>
    if v2 = (91 : Int32) then
    zrd 6 (u1.2.2 1004 5) fun a13 =>
    if zin? x1 200 = true then
    zlet (sI u1 (a13 + 1) (nx x1) (91 : Int32)) fun u14 =>
    zrd 6 (u14.2.2 1004 5) fun a15 =>
    yb1 (f57 n (1 : Int32) u14) fun v17 u16 =>
    if zin? x1 200 = true then
    zlet (sI u16 (a15 + 2) (nx x1) v17) fun u18 =>
    yb1 (f41 n (91 : Int32) u18) fun v20 u19 =>
    if v20 = (0 : Int32) then
    f59_66 n u19
    else yb0 (f49 n (f52 n 20) u19) fun u21 =>
    yb0 (f37 n (93 : Int32) u21) fun u22 =>
    zlet (sI u22 1004 9 ((u22.1 1004 9) - (1 : Int32))) fun u23 =>
    f59_66 n u23
    else none
    else none
    else zrd 6 (u1.2.2 1004 5) fun a3 =>
    yb1 (f57 n (9 : Int32) u1) fun v5 u4 =>
    if zin? x1 200 = true then
    zlet (sI u4 (a3 + 2) (nx x1) v5) fun u6 =>
    yb0 (f37 n (61 : Int32) u6) fun u7 =>
    yb1 (f39 n (149 : Int32) u7) fun v9 u8 =>
    if v9 = (0 : Int32) then
    yb0 (f49 n (f52 n 20) u8) fun u10 =>
    some u10
    else zrd 6 (u8.2.2 1004 5) fun a11 =>
    if zin? x1 200 = true then
    zlet (sI u8 (a11 + 1) (nx x1) (149 : Int32)) fun u12 =>
    some u12
    else none
    else none
set_option maxRecDepth 20000 in
theorem f59_ok {n d : Nat} {x1 : Int32} {s : zσ} {s2 : zσ} (hd : 138 ≤ d) (h : f59 n x1 s = some s2) {w : zσ} {fz : Bool} {L : Nat} {xs : Nat → Int32} : zGo (zX fz L xs) d q_59 (0, [(0, .ref 1004), (1, .int x1)], [], zmk s w, 0, 0) (none, zmk s2 w, 0, 0) := by
  obtain ⟨d, rfl⟩ : ∃ d0, d = d0 + 1 := ⟨d - 1, by omega⟩
  unfold f59 at h
  refine zGo_s (pc' := 1) (st' := [.ref 1004]) dd59_0 rfl ?_
  refine cGF (e := 1001) dd59_1 rfl rfl rfl rfl rfl ?_
  obtain ⟨v2, u1, hq, h⟩ := obnd h
  refine zCV1 (As := []) (rest := []) (b := 1001) (q' := q_56) dd59_4 rfl rfl (rcv_c rfl rfl (by decide)) rfl rfl rfl (f56_ok (d := d) (by omega)  hq) ?_
  refine zGo_s (pc' := 9) (st' := [.int (91 : Int32), .int v2]) dd59_7 rfl ?_
  rcases oite h with ⟨hc, h⟩ | ⟨hc, h⟩
  · refine zIF dd59_9 (kNeF hc) ?_
    refine zGo_s (pc' := 13) (st' := [.ref 1004]) dd59_12 rfl ?_
    obtain ⟨a13, e_a13, c_a13, h⟩ := ordd h
    refine cGR dd59_13 rfl rfl rfl rfl e_a13 ?_
    refine cGF (e := (a13 + 1)) dd59_16 rfl (ck6_s c_a13).1 (ck6_s c_a13).2 rfl (cf6_0 c_a13).1 ?_
    refine zGo_s (pc' := 20) (st' := [.int x1, .ref (a13 + 1)]) dd59_19 rfl ?_
    refine zGo_s (pc' := 22) (st' := [.int (91 : Int32), .int x1, .ref (a13 + 1)]) dd59_20 rfl ?_
    obtain ⟨hi, h⟩ := ochk h
    obtain ⟨u14, e_u14, h⟩ := olet h
    refine cIS dd59_22 (cf6_0 c_a13).2.1 (cf6_0 c_a13).2.2 hi e_u14 ?_
    refine zGo_s (pc' := 24) (st' := [.ref 1004]) dd59_23 rfl ?_
    obtain ⟨a15, e_a15, c_a15, h⟩ := ordd h
    refine cGR dd59_24 rfl rfl rfl rfl e_a15 ?_
    refine cGF (e := (a15 + 2)) dd59_27 rfl (ck6_s c_a15).1 (ck6_s c_a15).2 rfl (cf6_1 c_a15).1 ?_
    refine zGo_s (pc' := 31) (st' := [.int x1, .ref (a15 + 2)]) dd59_30 rfl ?_
    refine zGo_s (pc' := 32) (st' := [.ref 1004, .int x1, .ref (a15 + 2)]) dd59_31 rfl ?_
    refine zGo_s (pc' := 33) (st' := [.int (1 : Int32), .ref 1004, .int x1, .ref (a15 + 2)]) dd59_32 rfl ?_
    obtain ⟨v17, u16, hq, h⟩ := obnd h
    refine zCV1 (As := [.int (1 : Int32)]) (rest := [.int x1, .ref (a15 + 2)]) (b := 1004) (q' := q_57) dd59_33 rfl rfl (rcv_c rfl rfl (by decide)) rfl rfl rfl (f57_ok (d := d) (by omega)  hq) ?_
    obtain ⟨hi, h⟩ := ochk h
    obtain ⟨u18, e_u18, h⟩ := olet h
    refine cIS dd59_36 (cf6_1 c_a15).2.1 (cf6_1 c_a15).2.2 hi e_u18 ?_
    refine zGo_s (pc' := 38) (st' := [.ref 1004]) dd59_37 rfl ?_
    refine zGo_s (pc' := 40) (st' := [.int (91 : Int32), .ref 1004]) dd59_38 rfl ?_
    obtain ⟨v20, u19, hq, h⟩ := obnd h
    refine zCV1 (As := [.int (91 : Int32)]) (rest := []) (b := 1004) (q' := q_41) dd59_40 rfl rfl (rcv_c rfl rfl (by decide)) rfl rfl rfl (f41_ok (d := d) (by omega)  hq) ?_
    rcases oite h with ⟨hc, h⟩ | ⟨hc, h⟩
    · refine zUT dd59_43 rfl (kEqT hc) ?_
      exact zGo_lv (lv := [(0, .ref 1004)]) ⟨by simp, by simp, by simp⟩ (f59_66_ok hd h)
    · refine zUF dd59_43 (kEqF hc) ?_
      refine zGo_s (pc' := 47) (st' := [.ref 1004]) dd59_46 rfl ?_
      obtain ⟨u21, hq, h⟩ := obn0 h
      refine zCV0 (As := []) (rest := []) (b := 1004) (q' := q_49) dd59_47 rfl rfl (rcv_c rfl rfl (by decide)) rfl rfl rfl (f49_ok (d := d) (Df := 134) (by omega) f52_okk20  hq) ?_
      refine zGo_s (pc' := 51) (st' := [.ref 1004]) dd59_50 rfl ?_
      refine zGo_s (pc' := 53) (st' := [.int (93 : Int32), .ref 1004]) dd59_51 rfl ?_
      obtain ⟨u22, hq, h⟩ := obn0 h
      refine zCV0 (As := [.int (93 : Int32)]) (rest := []) (b := 1004) (q' := q_37) dd59_53 rfl rfl (rcv_c rfl rfl (by decide)) rfl rfl rfl (f37_ok (d := d) (by omega)  hq) ?_
      refine zGo_s (pc' := 57) (st' := [.ref 1004]) dd59_56 rfl ?_
      refine zGo_s (pc' := 58) (st' := [.ref 1004, .ref 1004]) dd59_57 rfl ?_
      refine cGI dd59_58 rfl rfl rfl rfl ?_
      refine zGo_s (pc' := 62) (st' := [.int (1 : Int32), .int (u22.1 1004 9), .ref 1004]) dd59_61 rfl ?_
      refine zGo_s (pc' := 63) (st' := [.int ((u22.1 1004 9) - (1 : Int32)), .ref 1004]) dd59_62 rfl ?_
      obtain ⟨u23, e_u23, h⟩ := olet h
      refine cPI dd59_63 rfl rfl rfl rfl rfl rfl e_u23 ?_
      exact zGo_lv (lv := [(0, .ref 1004)]) ⟨by simp, by simp, by simp⟩ (f59_66_ok hd h)
  · refine zIT dd59_9 rfl (kNeT hc) ?_
    refine zGo_s (pc' := 78) (st' := [.ref 1004]) dd59_77 rfl ?_
    obtain ⟨a3, e_a3, c_a3, h⟩ := ordd h
    refine cGR dd59_78 rfl rfl rfl rfl e_a3 ?_
    refine cGF (e := (a3 + 2)) dd59_81 rfl (ck6_s c_a3).1 (ck6_s c_a3).2 rfl (cf6_1 c_a3).1 ?_
    refine zGo_s (pc' := 85) (st' := [.int x1, .ref (a3 + 2)]) dd59_84 rfl ?_
    refine zGo_s (pc' := 86) (st' := [.ref 1004, .int x1, .ref (a3 + 2)]) dd59_85 rfl ?_
    refine zGo_s (pc' := 88) (st' := [.int (9 : Int32), .ref 1004, .int x1, .ref (a3 + 2)]) dd59_86 rfl ?_
    obtain ⟨v5, u4, hq, h⟩ := obnd h
    refine zCV1 (As := [.int (9 : Int32)]) (rest := [.int x1, .ref (a3 + 2)]) (b := 1004) (q' := q_57) dd59_88 rfl rfl (rcv_c rfl rfl (by decide)) rfl rfl rfl (f57_ok (d := d) (by omega)  hq) ?_
    obtain ⟨hi, h⟩ := ochk h
    obtain ⟨u6, e_u6, h⟩ := olet h
    refine cIS dd59_91 (cf6_1 c_a3).2.1 (cf6_1 c_a3).2.2 hi e_u6 ?_
    refine zGo_s (pc' := 93) (st' := [.ref 1004]) dd59_92 rfl ?_
    refine zGo_s (pc' := 95) (st' := [.int (61 : Int32), .ref 1004]) dd59_93 rfl ?_
    obtain ⟨u7, hq, h⟩ := obn0 h
    refine zCV0 (As := [.int (61 : Int32)]) (rest := []) (b := 1004) (q' := q_37) dd59_95 rfl rfl (rcv_c rfl rfl (by decide)) rfl rfl rfl (f37_ok (d := d) (by omega)  hq) ?_
    refine zGo_s (pc' := 99) (st' := [.ref 1004]) dd59_98 rfl ?_
    refine zGo_s (pc' := 102) (st' := [.int (149 : Int32), .ref 1004]) dd59_99 rfl ?_
    obtain ⟨v9, u8, hq, h⟩ := obnd h
    refine zCV1 (As := [.int (149 : Int32)]) (rest := []) (b := 1004) (q' := q_39) dd59_102 rfl rfl (rcv_c rfl rfl (by decide)) rfl rfl rfl (f39_ok (d := d) (by omega)  hq) ?_
    rcases oite h with ⟨hc, h⟩ | ⟨hc, h⟩
    · refine zUT dd59_105 rfl (kEqT hc) ?_
      refine zGo_s (pc' := 124) (st' := [.ref 1004]) dd59_123 rfl ?_
      obtain ⟨u10, hq, h⟩ := obn0 h
      refine zCV0 (As := []) (rest := []) (b := 1004) (q' := q_49) dd59_124 rfl rfl (rcv_c rfl rfl (by decide)) rfl rfl rfl (f49_ok (d := d) (Df := 134) (by omega) f52_okk20  hq) ?_
      obtain rfl := ore0 h
      exact zGo_ret dd59_127 rfl rfl
    · refine zUF dd59_105 (kEqF hc) ?_
      refine zGo_s (pc' := 109) (st' := [.ref 1004]) dd59_108 rfl ?_
      obtain ⟨a11, e_a11, c_a11, h⟩ := ordd h
      refine cGR dd59_109 rfl rfl rfl rfl e_a11 ?_
      refine cGF (e := (a11 + 1)) dd59_112 rfl (ck6_s c_a11).1 (ck6_s c_a11).2 rfl (cf6_0 c_a11).1 ?_
      refine zGo_s (pc' := 116) (st' := [.int x1, .ref (a11 + 1)]) dd59_115 rfl ?_
      refine zGo_s (pc' := 119) (st' := [.int (149 : Int32), .int x1, .ref (a11 + 1)]) dd59_116 rfl ?_
      obtain ⟨hi, h⟩ := ochk h
      obtain ⟨u12, e_u12, h⟩ := olet h
      refine cIS dd59_119 (cf6_0 c_a11).2.1 (cf6_0 c_a11).2.2 hi e_u12 ?_
      refine zGo_s (pc' := 127) (st' := []) dd59_120 rfl ?_
      obtain rfl := ore0 h
      exact zGo_ret dd59_127 rfl rfl
/-! PH$Reader.timed(I)V -/
theorem dd60_0 : decode cX4_timed 0 = .ok (.aload_n 0, 1) := by decide +kernel
theorem dd60_1 : decode cX4_timed 1 = .ok (.getfield 54, 3) := by decide +kernel
theorem dd60_4 : decode cX4_timed 4 = .ok (.getfield 68, 3) := by decide +kernel
theorem dd60_7 : decode cX4_timed 7 = .ok (.istore_n 2, 1) := by decide +kernel
theorem dd60_8 : decode cX4_timed 8 = .ok (.aload_n 0, 1) := by decide +kernel
theorem dd60_9 : decode cX4_timed 9 = .ok (.getfield 54, 3) := by decide +kernel
theorem dd60_12 : decode cX4_timed 12 = .ok (.invokevirtual 104, 3) := by decide +kernel
theorem dd60_15 : decode cX4_timed 15 = .ok (.iload_n 2, 1) := by decide +kernel
theorem dd60_16 : decode cX4_timed 16 = .ok (.sipush 148, 3) := by decide +kernel
theorem dd60_19 : decode cX4_timed 19 = .ok (.if_icmp .ne 20, 3) := by decide +kernel
theorem dd60_22 : decode cX4_timed 22 = .ok (.aload_n 0, 1) := by decide +kernel
theorem dd60_23 : decode cX4_timed 23 = .ok (.getfield 27, 3) := by decide +kernel
theorem dd60_26 : decode cX4_timed 26 = .ok (.getfield 229, 3) := by decide +kernel
theorem dd60_29 : decode cX4_timed 29 = .ok (.iload_n 1, 1) := by decide +kernel
theorem dd60_30 : decode cX4_timed 30 = .ok (.aload_n 0, 1) := by decide +kernel
theorem dd60_31 : decode cX4_timed 31 = .ok (.iconst 4, 1) := by decide +kernel
theorem dd60_32 : decode cX4_timed 32 = .ok (.invokevirtual 236, 3) := by decide +kernel
theorem dd60_35 : decode cX4_timed 35 = .ok (.iastore, 1) := by decide +kernel
theorem dd60_36 : decode cX4_timed 36 = .ok (.goto 42, 3) := by decide +kernel
theorem dd60_39 : decode cX4_timed 39 = .ok (.aload_n 0, 1) := by decide +kernel
theorem dd60_40 : decode cX4_timed 40 = .ok (.invokevirtual 223, 3) := by decide +kernel
theorem dd60_43 : decode cX4_timed 43 = .ok (.iload_n 2, 1) := by decide +kernel
theorem dd60_44 : decode cX4_timed 44 = .ok (.sipush 147, 3) := by decide +kernel
theorem dd60_47 : decode cX4_timed 47 = .ok (.if_icmp .ne 21, 3) := by decide +kernel
theorem dd60_50 : decode cX4_timed 50 = .ok (.aload_n 0, 1) := by decide +kernel
theorem dd60_51 : decode cX4_timed 51 = .ok (.sipush 141, 3) := by decide +kernel
theorem dd60_54 : decode cX4_timed 54 = .ok (.invokevirtual 110, 3) := by decide +kernel
theorem dd60_57 : decode cX4_timed 57 = .ok (.ifCond .eq 11, 3) := by decide +kernel
theorem dd60_60 : decode cX4_timed 60 = .ok (.sipush 141, 3) := by decide +kernel
theorem dd60_63 : decode cX4_timed 63 = .ok (.istore_n 2, 1) := by decide +kernel
theorem dd60_64 : decode cX4_timed 64 = .ok (.aload_n 0, 1) := by decide +kernel
theorem dd60_65 : decode cX4_timed 65 = .ok (.invokevirtual 223, 3) := by decide +kernel
theorem dd60_68 : decode cX4_timed 68 = .ok (.aload_n 0, 1) := by decide +kernel
theorem dd60_69 : decode cX4_timed 69 = .ok (.getfield 27, 3) := by decide +kernel
theorem dd60_72 : decode cX4_timed 72 = .ok (.getfield 229, 3) := by decide +kernel
theorem dd60_75 : decode cX4_timed 75 = .ok (.iload_n 1, 1) := by decide +kernel
theorem dd60_76 : decode cX4_timed 76 = .ok (.iload_n 2, 1) := by decide +kernel
theorem dd60_77 : decode cX4_timed 77 = .ok (.iastore, 1) := by decide +kernel
theorem dd60_78 : decode cX4_timed 78 = .ok (.aload_n 0, 1) := by decide +kernel
theorem dd60_79 : decode cX4_timed 79 = .ok (.getfield 54, 3) := by decide +kernel
theorem dd60_82 : decode cX4_timed 82 = .ok (.getfield 68, 3) := by decide +kernel
theorem dd60_85 : decode cX4_timed 85 = .ok (.sipush 167, 3) := by decide +kernel
theorem dd60_88 : decode cX4_timed 88 = .ok (.if_icmp .eq 23, 3) := by decide +kernel
theorem dd60_91 : decode cX4_timed 91 = .ok (.aload_n 0, 1) := by decide +kernel
theorem dd60_92 : decode cX4_timed 92 = .ok (.getfield 54, 3) := by decide +kernel
theorem dd60_95 : decode cX4_timed 95 = .ok (.getfield 68, 3) := by decide +kernel
theorem dd60_98 : decode cX4_timed 98 = .ok (.sipush 168, 3) := by decide +kernel
theorem dd60_101 : decode cX4_timed 101 = .ok (.if_icmp .eq 10, 3) := by decide +kernel
theorem dd60_104 : decode cX4_timed 104 = .ok (.aload_n 0, 1) := by decide +kernel
theorem dd60_105 : decode cX4_timed 105 = .ok (.iconst 2, 1) := by decide +kernel
theorem dd60_106 : decode cX4_timed 106 = .ok (.invokevirtual 73, 3) := by decide +kernel
theorem dd60_109 : decode cX4_timed 109 = .ok (.pop, 1) := by decide +kernel
theorem dd60_110 : decode cX4_timed 110 = .ok (.return_, 1) := by decide +kernel
theorem dd60_111 : decode cX4_timed 111 = .ok (.aload_n 0, 1) := by decide +kernel
theorem dd60_112 : decode cX4_timed 112 = .ok (.getfield 27, 3) := by decide +kernel
theorem dd60_115 : decode cX4_timed 115 = .ok (.getfield 212, 3) := by decide +kernel
theorem dd60_118 : decode cX4_timed 118 = .ok (.iload_n 1, 1) := by decide +kernel
theorem dd60_119 : decode cX4_timed 119 = .ok (.aload_n 0, 1) := by decide +kernel
theorem dd60_120 : decode cX4_timed 120 = .ok (.getfield 54, 3) := by decide +kernel
theorem dd60_123 : decode cX4_timed 123 = .ok (.getfield 68, 3) := by decide +kernel
theorem dd60_126 : decode cX4_timed 126 = .ok (.iastore, 1) := by decide +kernel
theorem dd60_127 : decode cX4_timed 127 = .ok (.aload_n 0, 1) := by decide +kernel
theorem dd60_128 : decode cX4_timed 128 = .ok (.getfield 54, 3) := by decide +kernel
theorem dd60_131 : decode cX4_timed 131 = .ok (.invokevirtual 104, 3) := by decide +kernel
theorem dd60_134 : decode cX4_timed 134 = .ok (.aload_n 0, 1) := by decide +kernel
theorem dd60_135 : decode cX4_timed 135 = .ok (.getfield 27, 3) := by decide +kernel
theorem dd60_138 : decode cX4_timed 138 = .ok (.getfield 226, 3) := by decide +kernel
theorem dd60_141 : decode cX4_timed 141 = .ok (.iload_n 1, 1) := by decide +kernel
theorem dd60_142 : decode cX4_timed 142 = .ok (.aload_n 0, 1) := by decide +kernel
theorem dd60_143 : decode cX4_timed 143 = .ok (.bipush 8, 2) := by decide +kernel
theorem dd60_145 : decode cX4_timed 145 = .ok (.invokevirtual 236, 3) := by decide +kernel
theorem dd60_148 : decode cX4_timed 148 = .ok (.iastore, 1) := by decide +kernel
theorem dd60_149 : decode cX4_timed 149 = .ok (.return_, 1) := by decide +kernel
def f60_111 (n : Nat) (x1 : Int32) (s : zσ) : Option zσ :=
    zrd 6 (s.2.2 1004 5) fun a1 =>
    if zin? x1 200 = true then
    zlet (sI s (a1 + 1) (nx x1) (s.1 1001 4)) fun u2 =>
    yb0 (f26 n u2) fun u3 =>
    zrd 6 (u3.2.2 1004 5) fun a4 =>
    yb1 (f57 n (8 : Int32) u3) fun v6 u5 =>
    if zin? x1 200 = true then
    zlet (sI u5 (a4 + 2) (nx x1) v6) fun u7 =>
    some u7
    else none
    else none
set_option maxRecDepth 20000 in
theorem f60_111_ok {n d : Nat} {x1 : Int32} {s : zσ} {s2 : zσ} (hd : 138 ≤ d) (h : f60_111 n x1 s = some s2) {w : zσ} {fz : Bool} {L : Nat} {xs : Nat → Int32} : zGo (zX fz L xs) d q_60 (111, [(0, .ref 1004), (1, .int x1)], [], zmk s w, 0, 0) (none, zmk s2 w, 0, 0) := by
  obtain ⟨d, rfl⟩ : ∃ d0, d = d0 + 1 := ⟨d - 1, by omega⟩
  unfold f60_111 at h
  refine zGo_s (pc' := 112) (st' := [.ref 1004]) dd60_111 rfl ?_
  obtain ⟨a1, e_a1, c_a1, h⟩ := ordd h
  refine cGR dd60_112 rfl rfl rfl rfl e_a1 ?_
  refine cGF (e := (a1 + 1)) dd60_115 rfl (ck6_s c_a1).1 (ck6_s c_a1).2 rfl (cf6_0 c_a1).1 ?_
  refine zGo_s (pc' := 119) (st' := [.int x1, .ref (a1 + 1)]) dd60_118 rfl ?_
  refine zGo_s (pc' := 120) (st' := [.ref 1004, .int x1, .ref (a1 + 1)]) dd60_119 rfl ?_
  refine cGF (e := 1001) dd60_120 rfl rfl rfl rfl rfl ?_
  refine cGI dd60_123 rfl rfl rfl rfl ?_
  obtain ⟨hi, h⟩ := ochk h
  obtain ⟨u2, e_u2, h⟩ := olet h
  refine cIS dd60_126 (cf6_0 c_a1).2.1 (cf6_0 c_a1).2.2 hi e_u2 ?_
  refine zGo_s (pc' := 128) (st' := [.ref 1004]) dd60_127 rfl ?_
  refine cGF (e := 1001) dd60_128 rfl rfl rfl rfl rfl ?_
  obtain ⟨u3, hq, h⟩ := obn0 h
  refine zCV0 (As := []) (rest := []) (b := 1001) (q' := q_26) dd60_131 rfl rfl (rcv_c rfl rfl (by decide)) rfl rfl rfl (f26_ok (d := d) (by omega)  hq) ?_
  refine zGo_s (pc' := 135) (st' := [.ref 1004]) dd60_134 rfl ?_
  obtain ⟨a4, e_a4, c_a4, h⟩ := ordd h
  refine cGR dd60_135 rfl rfl rfl rfl e_a4 ?_
  refine cGF (e := (a4 + 2)) dd60_138 rfl (ck6_s c_a4).1 (ck6_s c_a4).2 rfl (cf6_1 c_a4).1 ?_
  refine zGo_s (pc' := 142) (st' := [.int x1, .ref (a4 + 2)]) dd60_141 rfl ?_
  refine zGo_s (pc' := 143) (st' := [.ref 1004, .int x1, .ref (a4 + 2)]) dd60_142 rfl ?_
  refine zGo_s (pc' := 145) (st' := [.int (8 : Int32), .ref 1004, .int x1, .ref (a4 + 2)]) dd60_143 rfl ?_
  obtain ⟨v6, u5, hq, h⟩ := obnd h
  refine zCV1 (As := [.int (8 : Int32)]) (rest := [.int x1, .ref (a4 + 2)]) (b := 1004) (q' := q_57) dd60_145 rfl rfl (rcv_c rfl rfl (by decide)) rfl rfl rfl (f57_ok (d := d) (by omega)  hq) ?_
  obtain ⟨hi, h⟩ := ochk h
  obtain ⟨u7, e_u7, h⟩ := olet h
  refine cIS dd60_148 (cf6_1 c_a4).2.1 (cf6_1 c_a4).2.2 hi e_u7 ?_
  obtain rfl := ore0 h
  exact zGo_ret dd60_149 rfl rfl
def f60_78 (n : Nat) (x1 : Int32) (s : zσ) : Option zσ :=
    if (s.1 1001 4) = (167 : Int32) then
    f60_111 n x1 s
    else if (s.1 1001 4) = (168 : Int32) then
    f60_111 n x1 s
    else yb1 (f32 n (2 : Int32) s) fun v2 u1 =>
    some u1
set_option maxRecDepth 20000 in
theorem f60_78_ok {n d : Nat} {x1 : Int32} {s : zσ} {s2 : zσ} (hd : 138 ≤ d) (h : f60_78 n x1 s = some s2) {w : zσ} {fz : Bool} {L : Nat} {xs : Nat → Int32} : zGo (zX fz L xs) d q_60 (78, [(0, .ref 1004), (1, .int x1)], [], zmk s w, 0, 0) (none, zmk s2 w, 0, 0) := by
  obtain ⟨d, rfl⟩ : ∃ d0, d = d0 + 1 := ⟨d - 1, by omega⟩
  unfold f60_78 at h
  refine zGo_s (pc' := 79) (st' := [.ref 1004]) dd60_78 rfl ?_
  refine cGF (e := 1001) dd60_79 rfl rfl rfl rfl rfl ?_
  refine cGI dd60_82 rfl rfl rfl rfl ?_
  refine zGo_s (pc' := 88) (st' := [.int (167 : Int32), .int (s.1 1001 4)]) dd60_85 rfl ?_
  rcases oite h with ⟨hc, h⟩ | ⟨hc, h⟩
  · refine zIT dd60_88 rfl (kEqT hc) ?_
    exact f60_111_ok hd h
  · refine zIF dd60_88 (kEqF hc) ?_
    refine zGo_s (pc' := 92) (st' := [.ref 1004]) dd60_91 rfl ?_
    refine cGF (e := 1001) dd60_92 rfl rfl rfl rfl rfl ?_
    refine cGI dd60_95 rfl rfl rfl rfl ?_
    refine zGo_s (pc' := 101) (st' := [.int (168 : Int32), .int (s.1 1001 4)]) dd60_98 rfl ?_
    rcases oite h with ⟨hc, h⟩ | ⟨hc, h⟩
    · refine zIT dd60_101 rfl (kEqT hc) ?_
      exact f60_111_ok hd h
    · refine zIF dd60_101 (kEqF hc) ?_
      refine zGo_s (pc' := 105) (st' := [.ref 1004]) dd60_104 rfl ?_
      refine zGo_s (pc' := 106) (st' := [.int (2 : Int32), .ref 1004]) dd60_105 rfl ?_
      obtain ⟨v2, u1, hq, h⟩ := obnd h
      refine zCV1 (As := [.int (2 : Int32)]) (rest := []) (b := 1004) (q' := q_32) dd60_106 rfl rfl (rcv_c rfl rfl (by decide)) rfl rfl rfl (f32_ok (d := d) (by omega)  hq) ?_
      refine zGo_s (pc' := 110) (st' := []) dd60_109 rfl ?_
      obtain rfl := ore0 h
      exact zGo_ret dd60_110 rfl rfl
def f60_68 (n : Nat) (x1 : Int32) (x2 : Int32) (s : zσ) : Option zσ :=
    zrd 6 (s.2.2 1004 5) fun a1 =>
    if zin? x1 200 = true then
    zlet (sI s (a1 + 3) (nx x1) x2) fun u2 =>
    f60_78 n x1 u2
    else none
set_option maxRecDepth 20000 in
theorem f60_68_ok {n d : Nat} {x1 : Int32} {x2 : Int32} {s : zσ} {s2 : zσ} (hd : 138 ≤ d) (h : f60_68 n x1 x2 s = some s2) {w : zσ} {fz : Bool} {L : Nat} {xs : Nat → Int32} : zGo (zX fz L xs) d q_60 (68, [(0, .ref 1004), (1, .int x1), (2, .int x2)], [], zmk s w, 0, 0) (none, zmk s2 w, 0, 0) := by
  obtain ⟨d, rfl⟩ : ∃ d0, d = d0 + 1 := ⟨d - 1, by omega⟩
  unfold f60_68 at h
  refine zGo_s (pc' := 69) (st' := [.ref 1004]) dd60_68 rfl ?_
  obtain ⟨a1, e_a1, c_a1, h⟩ := ordd h
  refine cGR dd60_69 rfl rfl rfl rfl e_a1 ?_
  refine cGF (e := (a1 + 3)) dd60_72 rfl (ck6_s c_a1).1 (ck6_s c_a1).2 rfl (cf6_2 c_a1).1 ?_
  refine zGo_s (pc' := 76) (st' := [.int x1, .ref (a1 + 3)]) dd60_75 rfl ?_
  refine zGo_s (pc' := 77) (st' := [.int x2, .int x1, .ref (a1 + 3)]) dd60_76 rfl ?_
  obtain ⟨hi, h⟩ := ochk h
  obtain ⟨u2, e_u2, h⟩ := olet h
  refine cIS dd60_77 (cf6_2 c_a1).2.1 (cf6_2 c_a1).2.2 hi e_u2 ?_
  exact zGo_lv (lv := [(0, .ref 1004), (1, .int x1)]) ⟨by simp, by simp, by simp⟩ (f60_78_ok hd h)
def f60 (n : Nat) (x1 : Int32) (s : zσ) : Option zσ :=
    zlet ((s.1 1001 4)) fun v1 =>
    yb0 (f26 n s) fun u2 =>
    if v1 = (148 : Int32) then
    zrd 6 (u2.2.2 1004 5) fun a7 =>
    yb1 (f57 n (4 : Int32) u2) fun v9 u8 =>
    if zin? x1 200 = true then
    zlet (sI u8 (a7 + 3) (nx x1) v9) fun u10 =>
    f60_78 n x1 u10
    else none
    else yb0 (f49 n (f52 n 20) u2) fun u3 =>
    if v1 = (147 : Int32) then
    yb1 (f39 n (141 : Int32) u3) fun v5 u4 =>
    if v5 = (0 : Int32) then
    f60_68 n x1 v1 u4
    else yb0 (f49 n (f52 n 20) u4) fun u6 =>
    f60_68 n x1 (141 : Int32) u6
    else f60_68 n x1 v1 u3
set_option maxRecDepth 20000 in
theorem f60_ok {n d : Nat} {x1 : Int32} {s : zσ} {s2 : zσ} (hd : 138 ≤ d) (h : f60 n x1 s = some s2) {w : zσ} {fz : Bool} {L : Nat} {xs : Nat → Int32} : zGo (zX fz L xs) d q_60 (0, [(0, .ref 1004), (1, .int x1)], [], zmk s w, 0, 0) (none, zmk s2 w, 0, 0) := by
  obtain ⟨d, rfl⟩ : ∃ d0, d = d0 + 1 := ⟨d - 1, by omega⟩
  unfold f60 at h
  refine zGo_s (pc' := 1) (st' := [.ref 1004]) dd60_0 rfl ?_
  refine cGF (e := 1001) dd60_1 rfl rfl rfl rfl rfl ?_
  refine cGI dd60_4 rfl rfl rfl rfl ?_
  obtain ⟨v1, e_v1, h⟩ := olet h
  refine zGo_is1 e_v1 dd60_7 (x' := (8, [(2, .int v1), (0, .ref 1004), (1, .int x1)], [], _, _, _)) rfl ?_
  refine zGo_s (pc' := 9) (st' := [.ref 1004]) dd60_8 rfl ?_
  refine cGF (e := 1001) dd60_9 rfl rfl rfl rfl rfl ?_
  obtain ⟨u2, hq, h⟩ := obn0 h
  refine zCV0 (As := []) (rest := []) (b := 1001) (q' := q_26) dd60_12 rfl rfl (rcv_c rfl rfl (by decide)) rfl rfl rfl (f26_ok (d := d) (by omega)  hq) ?_
  refine zGo_s (pc' := 16) (st' := [.int v1]) dd60_15 rfl ?_
  refine zGo_s (pc' := 19) (st' := [.int (148 : Int32), .int v1]) dd60_16 rfl ?_
  rcases oite h with ⟨hc, h⟩ | ⟨hc, h⟩
  · refine zIF dd60_19 (kNeF hc) ?_
    refine zGo_s (pc' := 23) (st' := [.ref 1004]) dd60_22 rfl ?_
    obtain ⟨a7, e_a7, c_a7, h⟩ := ordd h
    refine cGR dd60_23 rfl rfl rfl rfl e_a7 ?_
    refine cGF (e := (a7 + 3)) dd60_26 rfl (ck6_s c_a7).1 (ck6_s c_a7).2 rfl (cf6_2 c_a7).1 ?_
    refine zGo_s (pc' := 30) (st' := [.int x1, .ref (a7 + 3)]) dd60_29 rfl ?_
    refine zGo_s (pc' := 31) (st' := [.ref 1004, .int x1, .ref (a7 + 3)]) dd60_30 rfl ?_
    refine zGo_s (pc' := 32) (st' := [.int (4 : Int32), .ref 1004, .int x1, .ref (a7 + 3)]) dd60_31 rfl ?_
    obtain ⟨v9, u8, hq, h⟩ := obnd h
    refine zCV1 (As := [.int (4 : Int32)]) (rest := [.int x1, .ref (a7 + 3)]) (b := 1004) (q' := q_57) dd60_32 rfl rfl (rcv_c rfl rfl (by decide)) rfl rfl rfl (f57_ok (d := d) (by omega)  hq) ?_
    obtain ⟨hi, h⟩ := ochk h
    obtain ⟨u10, e_u10, h⟩ := olet h
    refine cIS dd60_35 (cf6_2 c_a7).2.1 (cf6_2 c_a7).2.2 hi e_u10 ?_
    refine zGo_s (pc' := 78) (st' := []) dd60_36 rfl ?_
    exact zGo_lv (lv := [(0, .ref 1004), (1, .int x1)]) ⟨by simp, by simp, by simp⟩ (f60_78_ok hd h)
  · refine zIT dd60_19 rfl (kNeT hc) ?_
    refine zGo_s (pc' := 40) (st' := [.ref 1004]) dd60_39 rfl ?_
    obtain ⟨u3, hq, h⟩ := obn0 h
    refine zCV0 (As := []) (rest := []) (b := 1004) (q' := q_49) dd60_40 rfl rfl (rcv_c rfl rfl (by decide)) rfl rfl rfl (f49_ok (d := d) (Df := 134) (by omega) f52_okk20  hq) ?_
    refine zGo_s (pc' := 44) (st' := [.int v1]) dd60_43 rfl ?_
    refine zGo_s (pc' := 47) (st' := [.int (147 : Int32), .int v1]) dd60_44 rfl ?_
    rcases oite h with ⟨hc, h⟩ | ⟨hc, h⟩
    · refine zIF dd60_47 (kNeF hc) ?_
      refine zGo_s (pc' := 51) (st' := [.ref 1004]) dd60_50 rfl ?_
      refine zGo_s (pc' := 54) (st' := [.int (141 : Int32), .ref 1004]) dd60_51 rfl ?_
      obtain ⟨v5, u4, hq, h⟩ := obnd h
      refine zCV1 (As := [.int (141 : Int32)]) (rest := []) (b := 1004) (q' := q_39) dd60_54 rfl rfl (rcv_c rfl rfl (by decide)) rfl rfl rfl (f39_ok (d := d) (by omega)  hq) ?_
      rcases oite h with ⟨hc, h⟩ | ⟨hc, h⟩
      · refine zUT dd60_57 rfl (kEqT hc) ?_
        exact zGo_lv (lv := [(0, .ref 1004), (1, .int x1), (2, .int v1)]) ⟨by simp, by simp, by simp⟩ (f60_68_ok hd h)
      · refine zUF dd60_57 (kEqF hc) ?_
        refine zGo_s (pc' := 63) (st' := [.int (141 : Int32)]) dd60_60 rfl ?_
        refine zGo_s (pc' := 64) (st' := []) (lv' := [(2, .int (141 : Int32)), (0, .ref 1004), (1, .int x1)]) dd60_63 rfl ?_
        refine zGo_s (pc' := 65) (st' := [.ref 1004]) dd60_64 rfl ?_
        obtain ⟨u6, hq, h⟩ := obn0 h
        refine zCV0 (As := []) (rest := []) (b := 1004) (q' := q_49) dd60_65 rfl rfl (rcv_c rfl rfl (by decide)) rfl rfl rfl (f49_ok (d := d) (Df := 134) (by omega) f52_okk20  hq) ?_
        exact zGo_lv (lv := [(0, .ref 1004), (1, .int x1), (2, .int (141 : Int32))]) ⟨by simp, by simp, by simp⟩ (f60_68_ok hd h)
    · refine zIT dd60_47 rfl (kNeT hc) ?_
      exact zGo_lv (lv := [(0, .ref 1004), (1, .int x1), (2, .int v1)]) ⟨by simp, by simp, by simp⟩ (f60_68_ok hd h)
/-! PH$Reader.list(I)V -/
theorem dd61_0 : decode cX4_list 0 = .ok (.iconst 0, 1) := by decide +kernel
theorem dd61_1 : decode cX4_list 1 = .ok (.istore_n 2, 1) := by decide +kernel
theorem dd61_2 : decode cX4_list 2 = .ok (.iconst 1, 1) := by decide +kernel
theorem dd61_3 : decode cX4_list 3 = .ok (.istore_n 3, 1) := by decide +kernel
theorem dd61_4 : decode cX4_list 4 = .ok (.iconst 0, 1) := by decide +kernel
theorem dd61_5 : decode cX4_list 5 = .ok (.istore 4, 2) := by decide +kernel
theorem dd61_7 : decode cX4_list 7 = .ok (.iload_n 3, 1) := by decide +kernel
theorem dd61_8 : decode cX4_list 8 = .ok (.ifCond .eq 60, 3) := by decide +kernel
theorem dd61_11 : decode cX4_list 11 = .ok (.iload 4, 2) := by decide +kernel
theorem dd61_13 : decode cX4_list 13 = .ok (.iconst 4, 1) := by decide +kernel
theorem dd61_14 : decode cX4_list 14 = .ok (.if_icmp .gt 54, 3) := by decide +kernel
theorem dd61_17 : decode cX4_list 17 = .ok (.iload 4, 2) := by decide +kernel
theorem dd61_19 : decode cX4_list 19 = .ok (.iconst 4, 1) := by decide +kernel
theorem dd61_20 : decode cX4_list 20 = .ok (.if_icmp .ne 20, 3) := by decide +kernel
theorem dd61_23 : decode cX4_list 23 = .ok (.aload_n 0, 1) := by decide +kernel
theorem dd61_24 : decode cX4_list 24 = .ok (.getfield 54, 3) := by decide +kernel
theorem dd61_27 : decode cX4_list 27 = .ok (.getfield 68, 3) := by decide +kernel
theorem dd61_30 : decode cX4_list 30 = .ok (.iconst 1, 1) := by decide +kernel
theorem dd61_31 : decode cX4_list 31 = .ok (.if_icmp .ne 9, 3) := by decide +kernel
theorem dd61_34 : decode cX4_list 34 = .ok (.aload_n 0, 1) := by decide +kernel
theorem dd61_35 : decode cX4_list 35 = .ok (.iconst 3, 1) := by decide +kernel
theorem dd61_36 : decode cX4_list 36 = .ok (.invokevirtual 73, 3) := by decide +kernel
theorem dd61_39 : decode cX4_list 39 = .ok (.pop, 1) := by decide +kernel
theorem dd61_40 : decode cX4_list 40 = .ok (.iload_n 2, 1) := by decide +kernel
theorem dd61_41 : decode cX4_list 41 = .ok (.aload_n 0, 1) := by decide +kernel
theorem dd61_42 : decode cX4_list 42 = .ok (.iconst 2, 1) := by decide +kernel
theorem dd61_43 : decode cX4_list 43 = .ok (.invokevirtual 236, 3) := by decide +kernel
theorem dd61_46 : decode cX4_list 46 = .ok (.iconst 1, 1) := by decide +kernel
theorem dd61_47 : decode cX4_list 47 = .ok (.iadd, 1) := by decide +kernel
theorem dd61_48 : decode cX4_list 48 = .ok (.iconst 4, 1) := by decide +kernel
theorem dd61_49 : decode cX4_list 49 = .ok (.iload 4, 2) := by decide +kernel
theorem dd61_51 : decode cX4_list 51 = .ok (.imul, 1) := by decide +kernel
theorem dd61_52 : decode cX4_list 52 = .ok (.ishl, 1) := by decide +kernel
theorem dd61_53 : decode cX4_list 53 = .ok (.ior, 1) := by decide +kernel
theorem dd61_54 : decode cX4_list 54 = .ok (.istore_n 2, 1) := by decide +kernel
theorem dd61_55 : decode cX4_list 55 = .ok (.aload_n 0, 1) := by decide +kernel
theorem dd61_56 : decode cX4_list 56 = .ok (.bipush 44, 2) := by decide +kernel
theorem dd61_58 : decode cX4_list 58 = .ok (.invokevirtual 110, 3) := by decide +kernel
theorem dd61_61 : decode cX4_list 61 = .ok (.istore_n 3, 1) := by decide +kernel
theorem dd61_62 : decode cX4_list 62 = .ok (.iinc 4 1, 3) := by decide +kernel
theorem dd61_65 : decode cX4_list 65 = .ok (.goto (-58), 3) := by decide +kernel
theorem dd61_68 : decode cX4_list 68 = .ok (.aload_n 0, 1) := by decide +kernel
theorem dd61_69 : decode cX4_list 69 = .ok (.getfield 27, 3) := by decide +kernel
theorem dd61_72 : decode cX4_list 72 = .ok (.getfield 226, 3) := by decide +kernel
theorem dd61_75 : decode cX4_list 75 = .ok (.iload_n 1, 1) := by decide +kernel
theorem dd61_76 : decode cX4_list 76 = .ok (.iload_n 2, 1) := by decide +kernel
theorem dd61_77 : decode cX4_list 77 = .ok (.iastore, 1) := by decide +kernel
theorem dd61_78 : decode cX4_list 78 = .ok (.return_, 1) := by decide +kernel
def f61_68 (n : Nat) (x1 : Int32) (x2 : Int32) (s : zσ) : Option zσ :=
    zrd 6 (s.2.2 1004 5) fun a1 =>
    if zin? x1 200 = true then
    zlet (sI s (a1 + 2) (nx x1) x2) fun u2 =>
    some u2
    else none
set_option maxRecDepth 20000 in
theorem f61_68_ok {n d : Nat} {x1 : Int32} {x2 : Int32} {s : zσ} {s2 : zσ} (hd : 9 ≤ d) (h : f61_68 n x1 x2 s = some s2) {w : zσ} {fz : Bool} {L : Nat} {xs : Nat → Int32} : zGo (zX fz L xs) d q_61 (68, [(0, .ref 1004), (1, .int x1), (2, .int x2)], [], zmk s w, 0, 0) (none, zmk s2 w, 0, 0) := by
  obtain ⟨d, rfl⟩ : ∃ d0, d = d0 + 1 := ⟨d - 1, by omega⟩
  unfold f61_68 at h
  refine zGo_s (pc' := 69) (st' := [.ref 1004]) dd61_68 rfl ?_
  obtain ⟨a1, e_a1, c_a1, h⟩ := ordd h
  refine cGR dd61_69 rfl rfl rfl rfl e_a1 ?_
  refine cGF (e := (a1 + 2)) dd61_72 rfl (ck6_s c_a1).1 (ck6_s c_a1).2 rfl (cf6_1 c_a1).1 ?_
  refine zGo_s (pc' := 76) (st' := [.int x1, .ref (a1 + 2)]) dd61_75 rfl ?_
  refine zGo_s (pc' := 77) (st' := [.int x2, .int x1, .ref (a1 + 2)]) dd61_76 rfl ?_
  obtain ⟨hi, h⟩ := ochk h
  obtain ⟨u2, e_u2, h⟩ := olet h
  refine cIS dd61_77 (cf6_1 c_a1).2.1 (cf6_1 c_a1).2.2 hi e_u2 ?_
  obtain rfl := ore0 h
  exact zGo_ret dd61_78 rfl rfl
def f61_40 (n : Nat) (r7 : Int32 → Int32 → Int32 → Int32 → zσ → Option zσ) (x1 : Int32) (x2 : Int32) (x4 : Int32) (s : zσ) : Option zσ :=
    yb1 (f57 n (2 : Int32) s) fun v2 u1 =>
    zlet ((x2 ||| ((v2 + (1 : Int32)) <<< (((4 : Int32) * x4) &&& 31)))) fun v3 =>
    yb1 (f39 n (44 : Int32) u1) fun v5 u4 =>
    r7 x1 v3 v5 (x4 + (1 : Int32)) u4
set_option maxRecDepth 20000 in
theorem f61_40_ok {n d : Nat} {r7 : Int32 → Int32 → Int32 → Int32 → zσ → Option zσ} {x1 : Int32} {x2 : Int32} {x4 : Int32} {s : zσ} {s2 : zσ} (hd : 9 ≤ d) (hr7 : ∀ (x1 : Int32) (x2 : Int32) (x3 : Int32) (x4 : Int32) (s : zσ) (s2 : zσ), r7 x1 x2 x3 x4 s = some s2 → ∀ {w : zσ} {fz : Bool} {L : Nat} {xs : Nat → Int32}, zGo (zX fz L xs) d q_61 (7, [(0, .ref 1004), (1, .int x1), (2, .int x2), (3, .int x3), (4, .int x4)], [], zmk s w, 0, 0) (none, zmk s2 w, 0, 0)) (h : f61_40 n r7 x1 x2 x4 s = some s2) {w : zσ} {fz : Bool} {L : Nat} {xs : Nat → Int32} : zGo (zX fz L xs) d q_61 (40, [(0, .ref 1004), (1, .int x1), (2, .int x2), (4, .int x4)], [], zmk s w, 0, 0) (none, zmk s2 w, 0, 0) := by
  obtain ⟨d, rfl⟩ : ∃ d0, d = d0 + 1 := ⟨d - 1, by omega⟩
  unfold f61_40 at h
  refine zGo_s (pc' := 41) (st' := [.int x2]) dd61_40 rfl ?_
  refine zGo_s (pc' := 42) (st' := [.ref 1004, .int x2]) dd61_41 rfl ?_
  refine zGo_s (pc' := 43) (st' := [.int (2 : Int32), .ref 1004, .int x2]) dd61_42 rfl ?_
  obtain ⟨v2, u1, hq, h⟩ := obnd h
  refine zCV1 (As := [.int (2 : Int32)]) (rest := [.int x2]) (b := 1004) (q' := q_57) dd61_43 rfl rfl (rcv_c rfl rfl (by decide)) rfl rfl rfl (f57_ok (d := d) (by omega)  hq) ?_
  refine zGo_s (pc' := 47) (st' := [.int (1 : Int32), .int v2, .int x2]) dd61_46 rfl ?_
  refine zGo_s (pc' := 48) (st' := [.int (v2 + (1 : Int32)), .int x2]) dd61_47 rfl ?_
  refine zGo_s (pc' := 49) (st' := [.int (4 : Int32), .int (v2 + (1 : Int32)), .int x2]) dd61_48 rfl ?_
  refine zGo_s (pc' := 51) (st' := [.int x4, .int (4 : Int32), .int (v2 + (1 : Int32)), .int x2]) dd61_49 rfl ?_
  refine zGo_s (pc' := 52) (st' := [.int ((4 : Int32) * x4), .int (v2 + (1 : Int32)), .int x2]) dd61_51 rfl ?_
  refine zGo_s (pc' := 53) (st' := [.int ((v2 + (1 : Int32)) <<< (((4 : Int32) * x4) &&& 31)), .int x2]) dd61_52 rfl ?_
  refine zGo_s (pc' := 54) (st' := [.int (x2 ||| ((v2 + (1 : Int32)) <<< (((4 : Int32) * x4) &&& 31)))]) dd61_53 rfl ?_
  obtain ⟨v3, e_v3, h⟩ := olet h
  refine zGo_is1 e_v3 dd61_54 (x' := (55, [(2, .int v3), (0, .ref 1004), (1, .int x1), (4, .int x4)], [], _, _, _)) rfl ?_
  refine zGo_s (pc' := 56) (st' := [.ref 1004]) dd61_55 rfl ?_
  refine zGo_s (pc' := 58) (st' := [.int (44 : Int32), .ref 1004]) dd61_56 rfl ?_
  obtain ⟨v5, u4, hq, h⟩ := obnd h
  refine zCV1 (As := [.int (44 : Int32)]) (rest := []) (b := 1004) (q' := q_39) dd61_58 rfl rfl (rcv_c rfl rfl (by decide)) rfl rfl rfl (f39_ok (d := d) (by omega)  hq) ?_
  refine zGo_s (pc' := 62) (st' := []) (lv' := [(3, .int v5), (2, .int v3), (0, .ref 1004), (1, .int x1), (4, .int x4)]) dd61_61 rfl ?_
  refine zGo_s (pc' := 65) (st' := []) (lv' := [(4, .int (x4 + (1 : Int32))), (3, .int v5), (2, .int v3), (0, .ref 1004), (1, .int x1)]) dd61_62 rfl ?_
  refine zGo_s (pc' := 7) (st' := []) dd61_65 rfl ?_
  exact zGo_lv (lv := [(0, .ref 1004), (1, .int x1), (2, .int v3), (3, .int v5), (4, .int (x4 + (1 : Int32)))]) ⟨by simp, by simp, by simp⟩ (hr7 _ _ _ _ _ _ h)
def f61_7 (n : Nat) : Nat → Int32 → Int32 → Int32 → Int32 → zσ → Option zσ
  | 0, _, _, _, _, _ => none
  | j + 1, x1, x2, x3, x4, s =>
    if x3 = (0 : Int32) then
    f61_68 n x1 x2 s
    else if (4 : Int32) < x4 then
    f61_68 n x1 x2 s
    else if x4 = (4 : Int32) then
    if (s.1 1001 4) = (1 : Int32) then
    yb1 (f32 n (3 : Int32) s) fun v2 u1 =>
    f61_40 n (f61_7 n j) x1 x2 x4 u1
    else f61_40 n (f61_7 n j) x1 x2 x4 s
    else f61_40 n (f61_7 n j) x1 x2 x4 s
set_option maxRecDepth 20000 in
theorem f61_7_ok {n d : Nat} (hd : 9 ≤ d) : ∀ (j : Nat) (x1 : Int32) (x2 : Int32) (x3 : Int32) (x4 : Int32) (s : zσ) (s2 : zσ), f61_7 n j x1 x2 x3 x4 s = some s2 → ∀ {w : zσ} {fz : Bool} {L : Nat} {xs : Nat → Int32}, zGo (zX fz L xs) d q_61 (7, [(0, .ref 1004), (1, .int x1), (2, .int x2), (3, .int x3), (4, .int x4)], [], zmk s w, 0, 0) (none, zmk s2 w, 0, 0) := by
  obtain ⟨d, rfl⟩ : ∃ d0, d = d0 + 1 := ⟨d - 1, by omega⟩
  intro j
  induction j with
  | zero => intro x1 x2 x3 x4 s s2 h; cases h
  | succ j ih =>
    intro x1 x2 x3 x4 s s2 h w fz L xs
    rw [f61_7] at h
    refine zGo_s (pc' := 8) (st' := [.int x3]) dd61_7 rfl ?_
    rcases oite h with ⟨hc, h⟩ | ⟨hc, h⟩
    · refine zUT dd61_8 rfl (kEqT hc) ?_
      exact zGo_lv (lv := [(0, .ref 1004), (1, .int x1), (2, .int x2)]) ⟨by simp, by simp, by simp⟩ (f61_68_ok hd h)
    · refine zUF dd61_8 (kEqF hc) ?_
      refine zGo_s (pc' := 13) (st' := [.int x4]) dd61_11 rfl ?_
      refine zGo_s (pc' := 14) (st' := [.int (4 : Int32), .int x4]) dd61_13 rfl ?_
      rcases oite h with ⟨hc, h⟩ | ⟨hc, h⟩
      · refine zIT dd61_14 rfl (kGtT hc) ?_
        exact zGo_lv (lv := [(0, .ref 1004), (1, .int x1), (2, .int x2)]) ⟨by simp, by simp, by simp⟩ (f61_68_ok hd h)
      · refine zIF dd61_14 (kGtF hc) ?_
        refine zGo_s (pc' := 19) (st' := [.int x4]) dd61_17 rfl ?_
        refine zGo_s (pc' := 20) (st' := [.int (4 : Int32), .int x4]) dd61_19 rfl ?_
        rcases oite h with ⟨hc, h⟩ | ⟨hc, h⟩
        · refine zIF dd61_20 (kNeF hc) ?_
          refine zGo_s (pc' := 24) (st' := [.ref 1004]) dd61_23 rfl ?_
          refine cGF (e := 1001) dd61_24 rfl rfl rfl rfl rfl ?_
          refine cGI dd61_27 rfl rfl rfl rfl ?_
          refine zGo_s (pc' := 31) (st' := [.int (1 : Int32), .int (s.1 1001 4)]) dd61_30 rfl ?_
          rcases oite h with ⟨hc, h⟩ | ⟨hc, h⟩
          · refine zIF dd61_31 (kNeF hc) ?_
            refine zGo_s (pc' := 35) (st' := [.ref 1004]) dd61_34 rfl ?_
            refine zGo_s (pc' := 36) (st' := [.int (3 : Int32), .ref 1004]) dd61_35 rfl ?_
            obtain ⟨v2, u1, hq, h⟩ := obnd h
            refine zCV1 (As := [.int (3 : Int32)]) (rest := []) (b := 1004) (q' := q_32) dd61_36 rfl rfl (rcv_c rfl rfl (by decide)) rfl rfl rfl (f32_ok (d := d) (by omega)  hq) ?_
            refine zGo_s (pc' := 40) (st' := []) dd61_39 rfl ?_
            exact zGo_lv (lv := [(0, .ref 1004), (1, .int x1), (2, .int x2), (4, .int x4)]) ⟨by simp, by simp, by simp⟩ (f61_40_ok hd ih h)
          · refine zIT dd61_31 rfl (kNeT hc) ?_
            exact zGo_lv (lv := [(0, .ref 1004), (1, .int x1), (2, .int x2), (4, .int x4)]) ⟨by simp, by simp, by simp⟩ (f61_40_ok hd ih h)
        · refine zIT dd61_20 rfl (kNeT hc) ?_
          exact zGo_lv (lv := [(0, .ref 1004), (1, .int x1), (2, .int x2), (4, .int x4)]) ⟨by simp, by simp, by simp⟩ (f61_40_ok hd ih h)
def f61 (n : Nat) (x1 : Int32) (s : zσ) : Option zσ :=
    f61_7 n n x1 (0 : Int32) (1 : Int32) (0 : Int32) s
set_option maxRecDepth 20000 in
theorem f61_ok {n d : Nat} {x1 : Int32} {s : zσ} {s2 : zσ} (hd : 9 ≤ d) (h : f61 n x1 s = some s2) {w : zσ} {fz : Bool} {L : Nat} {xs : Nat → Int32} : zGo (zX fz L xs) d q_61 (0, [(0, .ref 1004), (1, .int x1)], [], zmk s w, 0, 0) (none, zmk s2 w, 0, 0) := by
  obtain ⟨d, rfl⟩ : ∃ d0, d = d0 + 1 := ⟨d - 1, by omega⟩
  unfold f61 at h
  refine zGo_s (pc' := 1) (st' := [.int (0 : Int32)]) dd61_0 rfl ?_
  refine zGo_s (pc' := 2) (st' := []) (lv' := [(2, .int (0 : Int32)), (0, .ref 1004), (1, .int x1)]) dd61_1 rfl ?_
  refine zGo_s (pc' := 3) (st' := [.int (1 : Int32)]) dd61_2 rfl ?_
  refine zGo_s (pc' := 4) (st' := []) (lv' := [(3, .int (1 : Int32)), (2, .int (0 : Int32)), (0, .ref 1004), (1, .int x1)]) dd61_3 rfl ?_
  refine zGo_s (pc' := 5) (st' := [.int (0 : Int32)]) dd61_4 rfl ?_
  refine zGo_s (pc' := 7) (st' := []) (lv' := [(4, .int (0 : Int32)), (3, .int (1 : Int32)), (2, .int (0 : Int32)), (0, .ref 1004), (1, .int x1)]) dd61_5 rfl ?_
  exact zGo_lv (lv := [(0, .ref 1004), (1, .int x1), (2, .int (0 : Int32)), (3, .int (1 : Int32)), (4, .int (0 : Int32))]) ⟨by simp, by simp, by simp⟩ (f61_7_ok hd _ _ _ _ _ _ _ h)
/-! PH$Reader.firstSort(I)I -/
theorem dd63_0 : decode cX4_firstSort 0 = .ok (.iload_n 0, 1) := by decide +kernel
theorem dd63_1 : decode cX4_firstSort 1 = .ok (.tableswitch 128 150 174 #[115, 128, 128, 128, 117, 117, 117, 115, 115, 128, 128, 119, 119, 119, 119, 121, 123, 128, 128, 128, 128, 128, 126, 126, 126], 115) := by decide +kernel
theorem dd63_116 : decode cX4_firstSort 116 = .ok (.iconst (-1), 1) := by decide +kernel
theorem dd63_117 : decode cX4_firstSort 117 = .ok (.ireturn, 1) := by decide +kernel
theorem dd63_118 : decode cX4_firstSort 118 = .ok (.iconst 1, 1) := by decide +kernel
theorem dd63_119 : decode cX4_firstSort 119 = .ok (.ireturn, 1) := by decide +kernel
theorem dd63_120 : decode cX4_firstSort 120 = .ok (.iconst 3, 1) := by decide +kernel
theorem dd63_121 : decode cX4_firstSort 121 = .ok (.ireturn, 1) := by decide +kernel
theorem dd63_122 : decode cX4_firstSort 122 = .ok (.iconst 5, 1) := by decide +kernel
theorem dd63_123 : decode cX4_firstSort 123 = .ok (.ireturn, 1) := by decide +kernel
theorem dd63_124 : decode cX4_firstSort 124 = .ok (.bipush 6, 2) := by decide +kernel
theorem dd63_126 : decode cX4_firstSort 126 = .ok (.ireturn, 1) := by decide +kernel
theorem dd63_127 : decode cX4_firstSort 127 = .ok (.iconst 4, 1) := by decide +kernel
theorem dd63_128 : decode cX4_firstSort 128 = .ok (.ireturn, 1) := by decide +kernel
theorem dd63_129 : decode cX4_firstSort 129 = .ok (.bipush 8, 2) := by decide +kernel
theorem dd63_131 : decode cX4_firstSort 131 = .ok (.ireturn, 1) := by decide +kernel
def f63 (n : Nat) (x0 : Int32) (s : zσ) : Option (Int32 × zσ) :=
    if x0 = (150 : Int32) then
    some ((-1 : Int32), s)
    else if x0 = (154 : Int32) then
    some ((1 : Int32), s)
    else if x0 = (155 : Int32) then
    some ((1 : Int32), s)
    else if x0 = (156 : Int32) then
    some ((1 : Int32), s)
    else if x0 = (157 : Int32) then
    some ((-1 : Int32), s)
    else if x0 = (158 : Int32) then
    some ((-1 : Int32), s)
    else if x0 = (161 : Int32) then
    some ((3 : Int32), s)
    else if x0 = (162 : Int32) then
    some ((3 : Int32), s)
    else if x0 = (163 : Int32) then
    some ((3 : Int32), s)
    else if x0 = (164 : Int32) then
    some ((3 : Int32), s)
    else if x0 = (165 : Int32) then
    some ((5 : Int32), s)
    else if x0 = (166 : Int32) then
    some ((6 : Int32), s)
    else if x0 = (172 : Int32) then
    some ((4 : Int32), s)
    else if x0 = (173 : Int32) then
    some ((4 : Int32), s)
    else if x0 = (174 : Int32) then
    some ((4 : Int32), s)
    else some ((8 : Int32), s)
set_option maxRecDepth 20000 in
theorem f63_ok {n d : Nat} {x0 : Int32} {s : zσ} {v : Int32} {s2 : zσ} (hd : 0 ≤ d) (h : f63 n x0 s = some (v, s2)) {w : zσ} {fz : Bool} {L : Nat} {xs : Nat → Int32} : zGo (zX fz L xs) d q_63 (0, [(0, .int x0)], [], zmk s w, 0, 0) (some (.int v), zmk s2 w, 0, 0) := by
  unfold f63 at h
  refine zGo_s (pc' := 1) (st' := [.int x0]) dd63_0 rfl ?_
  rcases oite h with ⟨hc, h⟩ | ⟨hn0, h⟩
  · refine zGo_sw dd63_1 (o := 115) (by rw [hc]; decide +kernel) rfl ?_
    refine zGo_s (pc' := 117) (st' := [.int (-1 : Int32)]) dd63_116 rfl ?_
    obtain ⟨rfl, rfl⟩ := oret h
    exact zGo_ret dd63_117 rfl rfl
  rcases oite h with ⟨hc, h⟩ | ⟨hn1, h⟩
  · refine zGo_sw dd63_1 (o := 117) (by rw [hc]; decide +kernel) rfl ?_
    refine zGo_s (pc' := 119) (st' := [.int (1 : Int32)]) dd63_118 rfl ?_
    obtain ⟨rfl, rfl⟩ := oret h
    exact zGo_ret dd63_119 rfl rfl
  rcases oite h with ⟨hc, h⟩ | ⟨hn2, h⟩
  · refine zGo_sw dd63_1 (o := 117) (by rw [hc]; decide +kernel) rfl ?_
    refine zGo_s (pc' := 119) (st' := [.int (1 : Int32)]) dd63_118 rfl ?_
    obtain ⟨rfl, rfl⟩ := oret h
    exact zGo_ret dd63_119 rfl rfl
  rcases oite h with ⟨hc, h⟩ | ⟨hn3, h⟩
  · refine zGo_sw dd63_1 (o := 117) (by rw [hc]; decide +kernel) rfl ?_
    refine zGo_s (pc' := 119) (st' := [.int (1 : Int32)]) dd63_118 rfl ?_
    obtain ⟨rfl, rfl⟩ := oret h
    exact zGo_ret dd63_119 rfl rfl
  rcases oite h with ⟨hc, h⟩ | ⟨hn4, h⟩
  · refine zGo_sw dd63_1 (o := 115) (by rw [hc]; decide +kernel) rfl ?_
    refine zGo_s (pc' := 117) (st' := [.int (-1 : Int32)]) dd63_116 rfl ?_
    obtain ⟨rfl, rfl⟩ := oret h
    exact zGo_ret dd63_117 rfl rfl
  rcases oite h with ⟨hc, h⟩ | ⟨hn5, h⟩
  · refine zGo_sw dd63_1 (o := 115) (by rw [hc]; decide +kernel) rfl ?_
    refine zGo_s (pc' := 117) (st' := [.int (-1 : Int32)]) dd63_116 rfl ?_
    obtain ⟨rfl, rfl⟩ := oret h
    exact zGo_ret dd63_117 rfl rfl
  rcases oite h with ⟨hc, h⟩ | ⟨hn6, h⟩
  · refine zGo_sw dd63_1 (o := 119) (by rw [hc]; decide +kernel) rfl ?_
    refine zGo_s (pc' := 121) (st' := [.int (3 : Int32)]) dd63_120 rfl ?_
    obtain ⟨rfl, rfl⟩ := oret h
    exact zGo_ret dd63_121 rfl rfl
  rcases oite h with ⟨hc, h⟩ | ⟨hn7, h⟩
  · refine zGo_sw dd63_1 (o := 119) (by rw [hc]; decide +kernel) rfl ?_
    refine zGo_s (pc' := 121) (st' := [.int (3 : Int32)]) dd63_120 rfl ?_
    obtain ⟨rfl, rfl⟩ := oret h
    exact zGo_ret dd63_121 rfl rfl
  rcases oite h with ⟨hc, h⟩ | ⟨hn8, h⟩
  · refine zGo_sw dd63_1 (o := 119) (by rw [hc]; decide +kernel) rfl ?_
    refine zGo_s (pc' := 121) (st' := [.int (3 : Int32)]) dd63_120 rfl ?_
    obtain ⟨rfl, rfl⟩ := oret h
    exact zGo_ret dd63_121 rfl rfl
  rcases oite h with ⟨hc, h⟩ | ⟨hn9, h⟩
  · refine zGo_sw dd63_1 (o := 119) (by rw [hc]; decide +kernel) rfl ?_
    refine zGo_s (pc' := 121) (st' := [.int (3 : Int32)]) dd63_120 rfl ?_
    obtain ⟨rfl, rfl⟩ := oret h
    exact zGo_ret dd63_121 rfl rfl
  rcases oite h with ⟨hc, h⟩ | ⟨hn10, h⟩
  · refine zGo_sw dd63_1 (o := 121) (by rw [hc]; decide +kernel) rfl ?_
    refine zGo_s (pc' := 123) (st' := [.int (5 : Int32)]) dd63_122 rfl ?_
    obtain ⟨rfl, rfl⟩ := oret h
    exact zGo_ret dd63_123 rfl rfl
  rcases oite h with ⟨hc, h⟩ | ⟨hn11, h⟩
  · refine zGo_sw dd63_1 (o := 123) (by rw [hc]; decide +kernel) rfl ?_
    refine zGo_s (pc' := 126) (st' := [.int (6 : Int32)]) dd63_124 rfl ?_
    obtain ⟨rfl, rfl⟩ := oret h
    exact zGo_ret dd63_126 rfl rfl
  rcases oite h with ⟨hc, h⟩ | ⟨hn12, h⟩
  · refine zGo_sw dd63_1 (o := 126) (by rw [hc]; decide +kernel) rfl ?_
    refine zGo_s (pc' := 128) (st' := [.int (4 : Int32)]) dd63_127 rfl ?_
    obtain ⟨rfl, rfl⟩ := oret h
    exact zGo_ret dd63_128 rfl rfl
  rcases oite h with ⟨hc, h⟩ | ⟨hn13, h⟩
  · refine zGo_sw dd63_1 (o := 126) (by rw [hc]; decide +kernel) rfl ?_
    refine zGo_s (pc' := 128) (st' := [.int (4 : Int32)]) dd63_127 rfl ?_
    obtain ⟨rfl, rfl⟩ := oret h
    exact zGo_ret dd63_128 rfl rfl
  rcases oite h with ⟨hc, h⟩ | ⟨hn14, h⟩
  · refine zGo_sw dd63_1 (o := 126) (by rw [hc]; decide +kernel) rfl ?_
    refine zGo_s (pc' := 128) (st' := [.int (4 : Int32)]) dd63_127 rfl ?_
    obtain ⟨rfl, rfl⟩ := oret h
    exact zGo_ret dd63_128 rfl rfl
  refine zGo_sw dd63_1 (o := 128) (zto_d (by decide) (by decide) fun k hk => ?_) rfl ?_
  · have hk2 : k = 0 ∨ k = 1 ∨ k = 2 ∨ k = 3 ∨ k = 4 ∨ k = 5 ∨ k = 6 ∨ k = 7 ∨ k = 8 ∨ k = 9 ∨ k = 10 ∨ k = 11 ∨ k = 12 ∨ k = 13 ∨ k = 14 ∨ k = 15 ∨ k = 16 ∨ k = 17 ∨ k = 18 ∨ k = 19 ∨ k = 20 ∨ k = 21 ∨ k = 22 ∨ k = 23 ∨ k = 24 := by omega
    rcases hk2 with rfl | rfl | rfl | rfl | rfl | rfl | rfl | rfl | rfl | rfl | rfl | rfl | rfl | rfl | rfl | rfl | rfl | rfl | rfl | rfl | rfl | rfl | rfl | rfl | rfl
    · exact Or.inr hn0
    · exact Or.inl rfl
    · exact Or.inl rfl
    · exact Or.inl rfl
    · exact Or.inr hn1
    · exact Or.inr hn2
    · exact Or.inr hn3
    · exact Or.inr hn4
    · exact Or.inr hn5
    · exact Or.inl rfl
    · exact Or.inl rfl
    · exact Or.inr hn6
    · exact Or.inr hn7
    · exact Or.inr hn8
    · exact Or.inr hn9
    · exact Or.inr hn10
    · exact Or.inr hn11
    · exact Or.inl rfl
    · exact Or.inl rfl
    · exact Or.inl rfl
    · exact Or.inl rfl
    · exact Or.inl rfl
    · exact Or.inr hn12
    · exact Or.inr hn13
    · exact Or.inr hn14
  refine zGo_s (pc' := 131) (st' := [.int (8 : Int32)]) dd63_129 rfl ?_
  obtain ⟨rfl, rfl⟩ := oret h
  exact zGo_ret dd63_131 rfl rfl
/-! PH$Reader.operands(I)V -/
theorem dd62_0 : decode cX4_operands 0 = .ok (.aload_n 0, 1) := by decide +kernel
theorem dd62_1 : decode cX4_operands 1 = .ok (.getfield 27, 3) := by decide +kernel
theorem dd62_4 : decode cX4_operands 4 = .ok (.getfield 212, 3) := by decide +kernel
theorem dd62_7 : decode cX4_operands 7 = .ok (.iload_n 1, 1) := by decide +kernel
theorem dd62_8 : decode cX4_operands 8 = .ok (.iaload, 1) := by decide +kernel
theorem dd62_9 : decode cX4_operands 9 = .ok (.istore_n 2, 1) := by decide +kernel
theorem dd62_10 : decode cX4_operands 10 = .ok (.iload_n 2, 1) := by decide +kernel
theorem dd62_11 : decode cX4_operands 11 = .ok (.invokestatic 245, 3) := by decide +kernel
theorem dd62_14 : decode cX4_operands 14 = .ok (.istore_n 3, 1) := by decide +kernel
theorem dd62_15 : decode cX4_operands 15 = .ok (.iload_n 3, 1) := by decide +kernel
theorem dd62_16 : decode cX4_operands 16 = .ok (.iconst (-1), 1) := by decide +kernel
theorem dd62_17 : decode cX4_operands 17 = .ok (.if_icmp .eq 36, 3) := by decide +kernel
theorem dd62_20 : decode cX4_operands 20 = .ok (.iload_n 2, 1) := by decide +kernel
theorem dd62_21 : decode cX4_operands 21 = .ok (.sipush 153, 3) := by decide +kernel
theorem dd62_24 : decode cX4_operands 24 = .ok (.if_icmp .ne 15, 3) := by decide +kernel
theorem dd62_27 : decode cX4_operands 27 = .ok (.aload_n 0, 1) := by decide +kernel
theorem dd62_28 : decode cX4_operands 28 = .ok (.getfield 54, 3) := by decide +kernel
theorem dd62_31 : decode cX4_operands 31 = .ok (.getfield 68, 3) := by decide +kernel
theorem dd62_34 : decode cX4_operands 34 = .ok (.bipush 59, 2) := by decide +kernel
theorem dd62_36 : decode cX4_operands 36 = .ok (.if_icmp .eq 17, 3) := by decide +kernel
theorem dd62_39 : decode cX4_operands 39 = .ok (.aload_n 0, 1) := by decide +kernel
theorem dd62_40 : decode cX4_operands 40 = .ok (.getfield 27, 3) := by decide +kernel
theorem dd62_43 : decode cX4_operands 43 = .ok (.getfield 226, 3) := by decide +kernel
theorem dd62_46 : decode cX4_operands 46 = .ok (.iload_n 1, 1) := by decide +kernel
theorem dd62_47 : decode cX4_operands 47 = .ok (.aload_n 0, 1) := by decide +kernel
theorem dd62_48 : decode cX4_operands 48 = .ok (.iload_n 3, 1) := by decide +kernel
theorem dd62_49 : decode cX4_operands 49 = .ok (.invokevirtual 236, 3) := by decide +kernel
theorem dd62_52 : decode cX4_operands 52 = .ok (.iastore, 1) := by decide +kernel
theorem dd62_53 : decode cX4_operands 53 = .ok (.iload_n 2, 1) := by decide +kernel
theorem dd62_54 : decode cX4_operands 54 = .ok (.sipush 155, 3) := by decide +kernel
theorem dd62_57 : decode cX4_operands 57 = .ok (.if_icmp .ne 20, 3) := by decide +kernel
theorem dd62_60 : decode cX4_operands 60 = .ok (.aload_n 0, 1) := by decide +kernel
theorem dd62_61 : decode cX4_operands 61 = .ok (.getfield 27, 3) := by decide +kernel
theorem dd62_64 : decode cX4_operands 64 = .ok (.getfield 229, 3) := by decide +kernel
theorem dd62_67 : decode cX4_operands 67 = .ok (.iload_n 1, 1) := by decide +kernel
theorem dd62_68 : decode cX4_operands 68 = .ok (.aload_n 0, 1) := by decide +kernel
theorem dd62_69 : decode cX4_operands 69 = .ok (.iconst 1, 1) := by decide +kernel
theorem dd62_70 : decode cX4_operands 70 = .ok (.invokevirtual 236, 3) := by decide +kernel
theorem dd62_73 : decode cX4_operands 73 = .ok (.iastore, 1) := by decide +kernel
theorem dd62_74 : decode cX4_operands 74 = .ok (.goto 57, 3) := by decide +kernel
theorem dd62_77 : decode cX4_operands 77 = .ok (.iload_n 2, 1) := by decide +kernel
theorem dd62_78 : decode cX4_operands 78 = .ok (.sipush 165, 3) := by decide +kernel
theorem dd62_81 : decode cX4_operands 81 = .ok (.if_icmp .ne 20, 3) := by decide +kernel
theorem dd62_84 : decode cX4_operands 84 = .ok (.aload_n 0, 1) := by decide +kernel
theorem dd62_85 : decode cX4_operands 85 = .ok (.getfield 27, 3) := by decide +kernel
theorem dd62_88 : decode cX4_operands 88 = .ok (.getfield 229, 3) := by decide +kernel
theorem dd62_91 : decode cX4_operands 91 = .ok (.iload_n 1, 1) := by decide +kernel
theorem dd62_92 : decode cX4_operands 92 = .ok (.aload_n 0, 1) := by decide +kernel
theorem dd62_93 : decode cX4_operands 93 = .ok (.iconst 0, 1) := by decide +kernel
theorem dd62_94 : decode cX4_operands 94 = .ok (.invokevirtual 236, 3) := by decide +kernel
theorem dd62_97 : decode cX4_operands 97 = .ok (.iastore, 1) := by decide +kernel
theorem dd62_98 : decode cX4_operands 98 = .ok (.goto 33, 3) := by decide +kernel
theorem dd62_101 : decode cX4_operands 101 = .ok (.iload_n 3, 1) := by decide +kernel
theorem dd62_102 : decode cX4_operands 102 = .ok (.iconst (-1), 1) := by decide +kernel
theorem dd62_103 : decode cX4_operands 103 = .ok (.if_icmp .eq 24, 3) := by decide +kernel
theorem dd62_106 : decode cX4_operands 106 = .ok (.iload_n 2, 1) := by decide +kernel
theorem dd62_107 : decode cX4_operands 107 = .ok (.sipush 154, 3) := by decide +kernel
theorem dd62_110 : decode cX4_operands 110 = .ok (.if_icmp .eq 17, 3) := by decide +kernel
theorem dd62_113 : decode cX4_operands 113 = .ok (.iload_n 2, 1) := by decide +kernel
theorem dd62_114 : decode cX4_operands 114 = .ok (.sipush 170, 3) := by decide +kernel
theorem dd62_117 : decode cX4_operands 117 = .ok (.if_icmp .eq 10, 3) := by decide +kernel
theorem dd62_120 : decode cX4_operands 120 = .ok (.iload_n 2, 1) := by decide +kernel
theorem dd62_121 : decode cX4_operands 121 = .ok (.sipush 166, 3) := by decide +kernel
theorem dd62_124 : decode cX4_operands 124 = .ok (.if_icmp .ne 7, 3) := by decide +kernel
theorem dd62_127 : decode cX4_operands 127 = .ok (.aload_n 0, 1) := by decide +kernel
theorem dd62_128 : decode cX4_operands 128 = .ok (.invokevirtual 223, 3) := by decide +kernel
theorem dd62_131 : decode cX4_operands 131 = .ok (.return_, 1) := by decide +kernel
def f62_127 (n : Nat) (s : zσ) : Option zσ :=
    yb0 (f49 n (f52 n 20) s) fun u1 =>
    some u1
set_option maxRecDepth 20000 in
theorem f62_127_ok {n d : Nat} {s : zσ} {s2 : zσ} (hd : 138 ≤ d) (h : f62_127 n s = some s2) {w : zσ} {fz : Bool} {L : Nat} {xs : Nat → Int32} : zGo (zX fz L xs) d q_62 (127, [(0, .ref 1004)], [], zmk s w, 0, 0) (none, zmk s2 w, 0, 0) := by
  obtain ⟨d, rfl⟩ : ∃ d0, d = d0 + 1 := ⟨d - 1, by omega⟩
  unfold f62_127 at h
  refine zGo_s (pc' := 128) (st' := [.ref 1004]) dd62_127 rfl ?_
  obtain ⟨u1, hq, h⟩ := obn0 h
  refine zCV0 (As := []) (rest := []) (b := 1004) (q' := q_49) dd62_128 rfl rfl (rcv_c rfl rfl (by decide)) rfl rfl rfl (f49_ok (d := d) (Df := 134) (by omega) f52_okk20  hq) ?_
  obtain rfl := ore0 h
  exact zGo_ret dd62_131 rfl rfl
def f62_53 (n : Nat) (x1 : Int32) (x2 : Int32) (x3 : Int32) (s : zσ) : Option zσ :=
    if x2 = (155 : Int32) then
    zrd 6 (s.2.2 1004 5) fun a5 =>
    yb1 (f57 n (1 : Int32) s) fun v7 u6 =>
    if zin? x1 200 = true then
    zlet (sI u6 (a5 + 3) (nx x1) v7) fun u8 =>
    some u8
    else none
    else if x2 = (165 : Int32) then
    zrd 6 (s.2.2 1004 5) fun a1 =>
    yb1 (f57 n (0 : Int32) s) fun v3 u2 =>
    if zin? x1 200 = true then
    zlet (sI u2 (a1 + 3) (nx x1) v3) fun u4 =>
    some u4
    else none
    else if x3 = (-1 : Int32) then
    f62_127 n s
    else if x2 = (154 : Int32) then
    f62_127 n s
    else if x2 = (170 : Int32) then
    f62_127 n s
    else if x2 = (166 : Int32) then
    f62_127 n s
    else some s
set_option maxRecDepth 20000 in
theorem f62_53_ok {n d : Nat} {x1 : Int32} {x2 : Int32} {x3 : Int32} {s : zσ} {s2 : zσ} (hd : 138 ≤ d) (h : f62_53 n x1 x2 x3 s = some s2) {w : zσ} {fz : Bool} {L : Nat} {xs : Nat → Int32} : zGo (zX fz L xs) d q_62 (53, [(0, .ref 1004), (1, .int x1), (2, .int x2), (3, .int x3)], [], zmk s w, 0, 0) (none, zmk s2 w, 0, 0) := by
  obtain ⟨d, rfl⟩ : ∃ d0, d = d0 + 1 := ⟨d - 1, by omega⟩
  unfold f62_53 at h
  refine zGo_s (pc' := 54) (st' := [.int x2]) dd62_53 rfl ?_
  refine zGo_s (pc' := 57) (st' := [.int (155 : Int32), .int x2]) dd62_54 rfl ?_
  rcases oite h with ⟨hc, h⟩ | ⟨hc, h⟩
  · refine zIF dd62_57 (kNeF hc) ?_
    refine zGo_s (pc' := 61) (st' := [.ref 1004]) dd62_60 rfl ?_
    obtain ⟨a5, e_a5, c_a5, h⟩ := ordd h
    refine cGR dd62_61 rfl rfl rfl rfl e_a5 ?_
    refine cGF (e := (a5 + 3)) dd62_64 rfl (ck6_s c_a5).1 (ck6_s c_a5).2 rfl (cf6_2 c_a5).1 ?_
    refine zGo_s (pc' := 68) (st' := [.int x1, .ref (a5 + 3)]) dd62_67 rfl ?_
    refine zGo_s (pc' := 69) (st' := [.ref 1004, .int x1, .ref (a5 + 3)]) dd62_68 rfl ?_
    refine zGo_s (pc' := 70) (st' := [.int (1 : Int32), .ref 1004, .int x1, .ref (a5 + 3)]) dd62_69 rfl ?_
    obtain ⟨v7, u6, hq, h⟩ := obnd h
    refine zCV1 (As := [.int (1 : Int32)]) (rest := [.int x1, .ref (a5 + 3)]) (b := 1004) (q' := q_57) dd62_70 rfl rfl (rcv_c rfl rfl (by decide)) rfl rfl rfl (f57_ok (d := d) (by omega)  hq) ?_
    obtain ⟨hi, h⟩ := ochk h
    obtain ⟨u8, e_u8, h⟩ := olet h
    refine cIS dd62_73 (cf6_2 c_a5).2.1 (cf6_2 c_a5).2.2 hi e_u8 ?_
    refine zGo_s (pc' := 131) (st' := []) dd62_74 rfl ?_
    obtain rfl := ore0 h
    exact zGo_ret dd62_131 rfl rfl
  · refine zIT dd62_57 rfl (kNeT hc) ?_
    refine zGo_s (pc' := 78) (st' := [.int x2]) dd62_77 rfl ?_
    refine zGo_s (pc' := 81) (st' := [.int (165 : Int32), .int x2]) dd62_78 rfl ?_
    rcases oite h with ⟨hc, h⟩ | ⟨hc, h⟩
    · refine zIF dd62_81 (kNeF hc) ?_
      refine zGo_s (pc' := 85) (st' := [.ref 1004]) dd62_84 rfl ?_
      obtain ⟨a1, e_a1, c_a1, h⟩ := ordd h
      refine cGR dd62_85 rfl rfl rfl rfl e_a1 ?_
      refine cGF (e := (a1 + 3)) dd62_88 rfl (ck6_s c_a1).1 (ck6_s c_a1).2 rfl (cf6_2 c_a1).1 ?_
      refine zGo_s (pc' := 92) (st' := [.int x1, .ref (a1 + 3)]) dd62_91 rfl ?_
      refine zGo_s (pc' := 93) (st' := [.ref 1004, .int x1, .ref (a1 + 3)]) dd62_92 rfl ?_
      refine zGo_s (pc' := 94) (st' := [.int (0 : Int32), .ref 1004, .int x1, .ref (a1 + 3)]) dd62_93 rfl ?_
      obtain ⟨v3, u2, hq, h⟩ := obnd h
      refine zCV1 (As := [.int (0 : Int32)]) (rest := [.int x1, .ref (a1 + 3)]) (b := 1004) (q' := q_57) dd62_94 rfl rfl (rcv_c rfl rfl (by decide)) rfl rfl rfl (f57_ok (d := d) (by omega)  hq) ?_
      obtain ⟨hi, h⟩ := ochk h
      obtain ⟨u4, e_u4, h⟩ := olet h
      refine cIS dd62_97 (cf6_2 c_a1).2.1 (cf6_2 c_a1).2.2 hi e_u4 ?_
      refine zGo_s (pc' := 131) (st' := []) dd62_98 rfl ?_
      obtain rfl := ore0 h
      exact zGo_ret dd62_131 rfl rfl
    · refine zIT dd62_81 rfl (kNeT hc) ?_
      refine zGo_s (pc' := 102) (st' := [.int x3]) dd62_101 rfl ?_
      refine zGo_s (pc' := 103) (st' := [.int (-1 : Int32), .int x3]) dd62_102 rfl ?_
      rcases oite h with ⟨hc, h⟩ | ⟨hc, h⟩
      · refine zIT dd62_103 rfl (kEqT hc) ?_
        exact zGo_lv (lv := [(0, .ref 1004)]) ⟨by simp, by simp, by simp⟩ (f62_127_ok hd h)
      · refine zIF dd62_103 (kEqF hc) ?_
        refine zGo_s (pc' := 107) (st' := [.int x2]) dd62_106 rfl ?_
        refine zGo_s (pc' := 110) (st' := [.int (154 : Int32), .int x2]) dd62_107 rfl ?_
        rcases oite h with ⟨hc, h⟩ | ⟨hc, h⟩
        · refine zIT dd62_110 rfl (kEqT hc) ?_
          exact zGo_lv (lv := [(0, .ref 1004)]) ⟨by simp, by simp, by simp⟩ (f62_127_ok hd h)
        · refine zIF dd62_110 (kEqF hc) ?_
          refine zGo_s (pc' := 114) (st' := [.int x2]) dd62_113 rfl ?_
          refine zGo_s (pc' := 117) (st' := [.int (170 : Int32), .int x2]) dd62_114 rfl ?_
          rcases oite h with ⟨hc, h⟩ | ⟨hc, h⟩
          · refine zIT dd62_117 rfl (kEqT hc) ?_
            exact zGo_lv (lv := [(0, .ref 1004)]) ⟨by simp, by simp, by simp⟩ (f62_127_ok hd h)
          · refine zIF dd62_117 (kEqF hc) ?_
            refine zGo_s (pc' := 121) (st' := [.int x2]) dd62_120 rfl ?_
            refine zGo_s (pc' := 124) (st' := [.int (166 : Int32), .int x2]) dd62_121 rfl ?_
            rcases oite h with ⟨hc, h⟩ | ⟨hc, h⟩
            · refine zIF dd62_124 (kNeF hc) ?_
              exact zGo_lv (lv := [(0, .ref 1004)]) ⟨by simp, by simp, by simp⟩ (f62_127_ok hd h)
            · refine zIT dd62_124 rfl (kNeT hc) ?_
              obtain rfl := ore0 h
              exact zGo_ret dd62_131 rfl rfl
def f62_39 (n : Nat) (x1 : Int32) (x2 : Int32) (x3 : Int32) (s : zσ) : Option zσ :=
    zrd 6 (s.2.2 1004 5) fun a1 =>
    yb1 (f57 n x3 s) fun v3 u2 =>
    if zin? x1 200 = true then
    zlet (sI u2 (a1 + 2) (nx x1) v3) fun u4 =>
    f62_53 n x1 x2 x3 u4
    else none
set_option maxRecDepth 20000 in
theorem f62_39_ok {n d : Nat} {x1 : Int32} {x2 : Int32} {x3 : Int32} {s : zσ} {s2 : zσ} (hd : 138 ≤ d) (h : f62_39 n x1 x2 x3 s = some s2) {w : zσ} {fz : Bool} {L : Nat} {xs : Nat → Int32} : zGo (zX fz L xs) d q_62 (39, [(0, .ref 1004), (1, .int x1), (2, .int x2), (3, .int x3)], [], zmk s w, 0, 0) (none, zmk s2 w, 0, 0) := by
  obtain ⟨d, rfl⟩ : ∃ d0, d = d0 + 1 := ⟨d - 1, by omega⟩
  unfold f62_39 at h
  refine zGo_s (pc' := 40) (st' := [.ref 1004]) dd62_39 rfl ?_
  obtain ⟨a1, e_a1, c_a1, h⟩ := ordd h
  refine cGR dd62_40 rfl rfl rfl rfl e_a1 ?_
  refine cGF (e := (a1 + 2)) dd62_43 rfl (ck6_s c_a1).1 (ck6_s c_a1).2 rfl (cf6_1 c_a1).1 ?_
  refine zGo_s (pc' := 47) (st' := [.int x1, .ref (a1 + 2)]) dd62_46 rfl ?_
  refine zGo_s (pc' := 48) (st' := [.ref 1004, .int x1, .ref (a1 + 2)]) dd62_47 rfl ?_
  refine zGo_s (pc' := 49) (st' := [.int x3, .ref 1004, .int x1, .ref (a1 + 2)]) dd62_48 rfl ?_
  obtain ⟨v3, u2, hq, h⟩ := obnd h
  refine zCV1 (As := [.int x3]) (rest := [.int x1, .ref (a1 + 2)]) (b := 1004) (q' := q_57) dd62_49 rfl rfl (rcv_c rfl rfl (by decide)) rfl rfl rfl (f57_ok (d := d) (by omega)  hq) ?_
  obtain ⟨hi, h⟩ := ochk h
  obtain ⟨u4, e_u4, h⟩ := olet h
  refine cIS dd62_52 (cf6_1 c_a1).2.1 (cf6_1 c_a1).2.2 hi e_u4 ?_
  exact f62_53_ok hd h
def f62 (n : Nat) (x1 : Int32) (s : zσ) : Option zσ :=
    zrd 6 (s.2.2 1004 5) fun a1 =>
    if zin? x1 200 = true then
    zlet ((s.1 (a1 + 1) (nx x1))) fun v2 =>
    yb1 (f63 n v2 s) fun v4 u3 =>
    if v4 = (-1 : Int32) then
    f62_53 n x1 v2 v4 u3
    else if v2 = (153 : Int32) then
    if (u3.1 1001 4) = (59 : Int32) then
    f62_53 n x1 v2 v4 u3
    else f62_39 n x1 v2 v4 u3
    else f62_39 n x1 v2 v4 u3
    else none
set_option maxRecDepth 20000 in
theorem f62_ok {n d : Nat} {x1 : Int32} {s : zσ} {s2 : zσ} (hd : 138 ≤ d) (h : f62 n x1 s = some s2) {w : zσ} {fz : Bool} {L : Nat} {xs : Nat → Int32} : zGo (zX fz L xs) d q_62 (0, [(0, .ref 1004), (1, .int x1)], [], zmk s w, 0, 0) (none, zmk s2 w, 0, 0) := by
  obtain ⟨d, rfl⟩ : ∃ d0, d = d0 + 1 := ⟨d - 1, by omega⟩
  unfold f62 at h
  refine zGo_s (pc' := 1) (st' := [.ref 1004]) dd62_0 rfl ?_
  obtain ⟨a1, e_a1, c_a1, h⟩ := ordd h
  refine cGR dd62_1 rfl rfl rfl rfl e_a1 ?_
  refine cGF (e := (a1 + 1)) dd62_4 rfl (ck6_s c_a1).1 (ck6_s c_a1).2 rfl (cf6_0 c_a1).1 ?_
  refine zGo_s (pc' := 8) (st' := [.int x1, .ref (a1 + 1)]) dd62_7 rfl ?_
  obtain ⟨hi, h⟩ := ochk h
  refine cIA dd62_8 (cf6_0 c_a1).2.1 (cf6_0 c_a1).2.2 hi ?_
  obtain ⟨v2, e_v2, h⟩ := olet h
  refine zGo_is1 e_v2 dd62_9 (x' := (10, [(2, .int v2), (0, .ref 1004), (1, .int x1)], [], _, _, _)) rfl ?_
  refine zGo_s (pc' := 11) (st' := [.int v2]) dd62_10 rfl ?_
  obtain ⟨v4, u3, hq, h⟩ := obnd h
  refine zCS1 (As := [.int v2]) (rest := []) (q' := q_63) dd62_11 rfl rfl rfl rfl rfl (f63_ok (d := d) (by omega)  hq) ?_
  refine zGo_s (pc' := 15) (st' := []) (lv' := [(3, .int v4), (2, .int v2), (0, .ref 1004), (1, .int x1)]) dd62_14 rfl ?_
  refine zGo_s (pc' := 16) (st' := [.int v4]) dd62_15 rfl ?_
  refine zGo_s (pc' := 17) (st' := [.int (-1 : Int32), .int v4]) dd62_16 rfl ?_
  rcases oite h with ⟨hc, h⟩ | ⟨hc, h⟩
  · refine zIT dd62_17 rfl (kEqT hc) ?_
    exact zGo_lv (lv := [(0, .ref 1004), (1, .int x1), (2, .int v2), (3, .int v4)]) ⟨by simp, by simp, by simp⟩ (f62_53_ok hd h)
  · refine zIF dd62_17 (kEqF hc) ?_
    refine zGo_s (pc' := 21) (st' := [.int v2]) dd62_20 rfl ?_
    refine zGo_s (pc' := 24) (st' := [.int (153 : Int32), .int v2]) dd62_21 rfl ?_
    rcases oite h with ⟨hc, h⟩ | ⟨hc, h⟩
    · refine zIF dd62_24 (kNeF hc) ?_
      refine zGo_s (pc' := 28) (st' := [.ref 1004]) dd62_27 rfl ?_
      refine cGF (e := 1001) dd62_28 rfl rfl rfl rfl rfl ?_
      refine cGI dd62_31 rfl rfl rfl rfl ?_
      refine zGo_s (pc' := 36) (st' := [.int (59 : Int32), .int (u3.1 1001 4)]) dd62_34 rfl ?_
      rcases oite h with ⟨hc, h⟩ | ⟨hc, h⟩
      · refine zIT dd62_36 rfl (kEqT hc) ?_
        exact zGo_lv (lv := [(0, .ref 1004), (1, .int x1), (2, .int v2), (3, .int v4)]) ⟨by simp, by simp, by simp⟩ (f62_53_ok hd h)
      · refine zIF dd62_36 (kEqF hc) ?_
        exact zGo_lv (lv := [(0, .ref 1004), (1, .int x1), (2, .int v2), (3, .int v4)]) ⟨by simp, by simp, by simp⟩ (f62_39_ok hd h)
    · refine zIT dd62_24 rfl (kNeT hc) ?_
      exact zGo_lv (lv := [(0, .ref 1004), (1, .int x1), (2, .int v2), (3, .int v4)]) ⟨by simp, by simp, by simp⟩ (f62_39_ok hd h)
/-! PH$Reader.beginsExpression(I)Z -/
theorem dd65_0 : decode cX4_beginsExpression 0 = .ok (.iload_n 0, 1) := by decide +kernel
theorem dd65_1 : decode cX4_beginsExpression 1 = .ok (.iconst 1, 1) := by decide +kernel
theorem dd65_2 : decode cX4_beginsExpression 2 = .ok (.if_icmp .eq 34, 3) := by decide +kernel
theorem dd65_5 : decode cX4_beginsExpression 5 = .ok (.iload_n 0, 1) := by decide +kernel
theorem dd65_6 : decode cX4_beginsExpression 6 = .ok (.iconst 2, 1) := by decide +kernel
theorem dd65_7 : decode cX4_beginsExpression 7 = .ok (.if_icmp .eq 29, 3) := by decide +kernel
theorem dd65_10 : decode cX4_beginsExpression 10 = .ok (.iload_n 0, 1) := by decide +kernel
theorem dd65_11 : decode cX4_beginsExpression 11 = .ok (.bipush 40, 2) := by decide +kernel
theorem dd65_13 : decode cX4_beginsExpression 13 = .ok (.if_icmp .eq 23, 3) := by decide +kernel
theorem dd65_16 : decode cX4_beginsExpression 16 = .ok (.iload_n 0, 1) := by decide +kernel
theorem dd65_17 : decode cX4_beginsExpression 17 = .ok (.bipush 45, 2) := by decide +kernel
theorem dd65_19 : decode cX4_beginsExpression 19 = .ok (.if_icmp .eq 17, 3) := by decide +kernel
theorem dd65_22 : decode cX4_beginsExpression 22 = .ok (.iload_n 0, 1) := by decide +kernel
theorem dd65_23 : decode cX4_beginsExpression 23 = .ok (.sipush 142, 3) := by decide +kernel
theorem dd65_26 : decode cX4_beginsExpression 26 = .ok (.if_icmp .lt 14, 3) := by decide +kernel
theorem dd65_29 : decode cX4_beginsExpression 29 = .ok (.iload_n 0, 1) := by decide +kernel
theorem dd65_30 : decode cX4_beginsExpression 30 = .ok (.sipush 144, 3) := by decide +kernel
theorem dd65_33 : decode cX4_beginsExpression 33 = .ok (.if_icmp .gt 7, 3) := by decide +kernel
theorem dd65_36 : decode cX4_beginsExpression 36 = .ok (.iconst 1, 1) := by decide +kernel
theorem dd65_37 : decode cX4_beginsExpression 37 = .ok (.goto 4, 3) := by decide +kernel
theorem dd65_40 : decode cX4_beginsExpression 40 = .ok (.iconst 0, 1) := by decide +kernel
theorem dd65_41 : decode cX4_beginsExpression 41 = .ok (.ireturn, 1) := by decide +kernel
def f65_36 (n : Nat) (s : zσ) : Option (Int32 × zσ) :=
    some ((1 : Int32), s)
set_option maxRecDepth 20000 in
theorem f65_36_ok {n d : Nat} {s : zσ} {v : Int32} {s2 : zσ} (hd : 0 ≤ d) (h : f65_36 n s = some (v, s2)) {w : zσ} {fz : Bool} {L : Nat} {xs : Nat → Int32} : zGo (zX fz L xs) d q_65 (36, [], [], zmk s w, 0, 0) (some (.int v), zmk s2 w, 0, 0) := by
  unfold f65_36 at h
  refine zGo_s (pc' := 37) (st' := [.int (1 : Int32)]) dd65_36 rfl ?_
  refine zGo_s (pc' := 41) (st' := [.int (1 : Int32)]) dd65_37 rfl ?_
  obtain ⟨rfl, rfl⟩ := oret h
  exact zGo_ret dd65_41 rfl rfl
def f65 (n : Nat) (x0 : Int32) (s : zσ) : Option (Int32 × zσ) :=
    if x0 = (1 : Int32) then
    f65_36 n s
    else if x0 = (2 : Int32) then
    f65_36 n s
    else if x0 = (40 : Int32) then
    f65_36 n s
    else if x0 = (45 : Int32) then
    f65_36 n s
    else if x0 < (142 : Int32) then
    some ((0 : Int32), s)
    else if (144 : Int32) < x0 then
    some ((0 : Int32), s)
    else f65_36 n s
set_option maxRecDepth 20000 in
theorem f65_ok {n d : Nat} {x0 : Int32} {s : zσ} {v : Int32} {s2 : zσ} (hd : 0 ≤ d) (h : f65 n x0 s = some (v, s2)) {w : zσ} {fz : Bool} {L : Nat} {xs : Nat → Int32} : zGo (zX fz L xs) d q_65 (0, [(0, .int x0)], [], zmk s w, 0, 0) (some (.int v), zmk s2 w, 0, 0) := by
  unfold f65 at h
  refine zGo_s (pc' := 1) (st' := [.int x0]) dd65_0 rfl ?_
  refine zGo_s (pc' := 2) (st' := [.int (1 : Int32), .int x0]) dd65_1 rfl ?_
  rcases oite h with ⟨hc, h⟩ | ⟨hc, h⟩
  · refine zIT dd65_2 rfl (kEqT hc) ?_
    exact zGo_lv (lv := []) ⟨by simp, by simp, by simp⟩ (f65_36_ok hd h)
  · refine zIF dd65_2 (kEqF hc) ?_
    refine zGo_s (pc' := 6) (st' := [.int x0]) dd65_5 rfl ?_
    refine zGo_s (pc' := 7) (st' := [.int (2 : Int32), .int x0]) dd65_6 rfl ?_
    rcases oite h with ⟨hc, h⟩ | ⟨hc, h⟩
    · refine zIT dd65_7 rfl (kEqT hc) ?_
      exact zGo_lv (lv := []) ⟨by simp, by simp, by simp⟩ (f65_36_ok hd h)
    · refine zIF dd65_7 (kEqF hc) ?_
      refine zGo_s (pc' := 11) (st' := [.int x0]) dd65_10 rfl ?_
      refine zGo_s (pc' := 13) (st' := [.int (40 : Int32), .int x0]) dd65_11 rfl ?_
      rcases oite h with ⟨hc, h⟩ | ⟨hc, h⟩
      · refine zIT dd65_13 rfl (kEqT hc) ?_
        exact zGo_lv (lv := []) ⟨by simp, by simp, by simp⟩ (f65_36_ok hd h)
      · refine zIF dd65_13 (kEqF hc) ?_
        refine zGo_s (pc' := 17) (st' := [.int x0]) dd65_16 rfl ?_
        refine zGo_s (pc' := 19) (st' := [.int (45 : Int32), .int x0]) dd65_17 rfl ?_
        rcases oite h with ⟨hc, h⟩ | ⟨hc, h⟩
        · refine zIT dd65_19 rfl (kEqT hc) ?_
          exact zGo_lv (lv := []) ⟨by simp, by simp, by simp⟩ (f65_36_ok hd h)
        · refine zIF dd65_19 (kEqF hc) ?_
          refine zGo_s (pc' := 23) (st' := [.int x0]) dd65_22 rfl ?_
          refine zGo_s (pc' := 26) (st' := [.int (142 : Int32), .int x0]) dd65_23 rfl ?_
          rcases oite h with ⟨hc, h⟩ | ⟨hc, h⟩
          · refine zIT dd65_26 rfl (kLtT hc) ?_
            refine zGo_s (pc' := 41) (st' := [.int (0 : Int32)]) dd65_40 rfl ?_
            obtain ⟨rfl, rfl⟩ := oret h
            exact zGo_ret dd65_41 rfl rfl
          · refine zIF dd65_26 (kLtF hc) ?_
            refine zGo_s (pc' := 30) (st' := [.int x0]) dd65_29 rfl ?_
            refine zGo_s (pc' := 33) (st' := [.int (144 : Int32), .int x0]) dd65_30 rfl ?_
            rcases oite h with ⟨hc, h⟩ | ⟨hc, h⟩
            · refine zIT dd65_33 rfl (kGtT hc) ?_
              refine zGo_s (pc' := 41) (st' := [.int (0 : Int32)]) dd65_40 rfl ?_
              obtain ⟨rfl, rfl⟩ := oret h
              exact zGo_ret dd65_41 rfl rfl
            · refine zIF dd65_33 (kGtF hc) ?_
              exact zGo_lv (lv := []) ⟨by simp, by simp, by simp⟩ (f65_36_ok hd h)
/-! PH$Reader.call(I)V -/
theorem dd64_0 : decode cX4_call 0 = .ok (.aload_n 0, 1) := by decide +kernel
theorem dd64_1 : decode cX4_call 1 = .ok (.getfield 54, 3) := by decide +kernel
theorem dd64_4 : decode cX4_call 4 = .ok (.getfield 239, 3) := by decide +kernel
theorem dd64_7 : decode cX4_call 7 = .ok (.istore_n 2, 1) := by decide +kernel
theorem dd64_8 : decode cX4_call 8 = .ok (.aload_n 0, 1) := by decide +kernel
theorem dd64_9 : decode cX4_call 9 = .ok (.bipush 7, 2) := by decide +kernel
theorem dd64_11 : decode cX4_call 11 = .ok (.invokevirtual 236, 3) := by decide +kernel
theorem dd64_14 : decode cX4_call 14 = .ok (.istore_n 3, 1) := by decide +kernel
theorem dd64_15 : decode cX4_call 15 = .ok (.aload_n 0, 1) := by decide +kernel
theorem dd64_16 : decode cX4_call 16 = .ok (.bipush 40, 2) := by decide +kernel
theorem dd64_18 : decode cX4_call 18 = .ok (.invokevirtual 125, 3) := by decide +kernel
theorem dd64_21 : decode cX4_call 21 = .ok (.iconst 0, 1) := by decide +kernel
theorem dd64_22 : decode cX4_call 22 = .ok (.istore 4, 2) := by decide +kernel
theorem dd64_24 : decode cX4_call 24 = .ok (.aload_n 0, 1) := by decide +kernel
theorem dd64_25 : decode cX4_call 25 = .ok (.getfield 54, 3) := by decide +kernel
theorem dd64_28 : decode cX4_call 28 = .ok (.getfield 68, 3) := by decide +kernel
theorem dd64_31 : decode cX4_call 31 = .ok (.bipush 41, 2) := by decide +kernel
theorem dd64_33 : decode cX4_call 33 = .ok (.if_icmp .eq 7, 3) := by decide +kernel
theorem dd64_36 : decode cX4_call 36 = .ok (.iconst 1, 1) := by decide +kernel
theorem dd64_37 : decode cX4_call 37 = .ok (.goto 4, 3) := by decide +kernel
theorem dd64_40 : decode cX4_call 40 = .ok (.iconst 0, 1) := by decide +kernel
theorem dd64_41 : decode cX4_call 41 = .ok (.istore 5, 2) := by decide +kernel
theorem dd64_43 : decode cX4_call 43 = .ok (.iconst 0, 1) := by decide +kernel
theorem dd64_44 : decode cX4_call 44 = .ok (.istore 6, 2) := by decide +kernel
theorem dd64_46 : decode cX4_call 46 = .ok (.iload 5, 2) := by decide +kernel
theorem dd64_48 : decode cX4_call 48 = .ok (.ifCond .eq 55, 3) := by decide +kernel
theorem dd64_51 : decode cX4_call 51 = .ok (.iload 6, 2) := by decide +kernel
theorem dd64_53 : decode cX4_call 53 = .ok (.iconst 3, 1) := by decide +kernel
theorem dd64_54 : decode cX4_call 54 = .ok (.if_icmp .gt 49, 3) := by decide +kernel
theorem dd64_57 : decode cX4_call 57 = .ok (.iload 6, 2) := by decide +kernel
theorem dd64_59 : decode cX4_call 59 = .ok (.iconst 3, 1) := by decide +kernel
theorem dd64_60 : decode cX4_call 60 = .ok (.if_icmp .ne 22, 3) := by decide +kernel
theorem dd64_63 : decode cX4_call 63 = .ok (.aload_n 0, 1) := by decide +kernel
theorem dd64_64 : decode cX4_call 64 = .ok (.getfield 54, 3) := by decide +kernel
theorem dd64_67 : decode cX4_call 67 = .ok (.getfield 68, 3) := by decide +kernel
theorem dd64_70 : decode cX4_call 70 = .ok (.invokestatic 242, 3) := by decide +kernel
theorem dd64_73 : decode cX4_call 73 = .ok (.ifCond .eq 9, 3) := by decide +kernel
theorem dd64_76 : decode cX4_call 76 = .ok (.aload_n 0, 1) := by decide +kernel
theorem dd64_77 : decode cX4_call 77 = .ok (.iconst 3, 1) := by decide +kernel
theorem dd64_78 : decode cX4_call 78 = .ok (.invokevirtual 73, 3) := by decide +kernel
theorem dd64_81 : decode cX4_call 81 = .ok (.pop, 1) := by decide +kernel
theorem dd64_82 : decode cX4_call 82 = .ok (.aload_n 0, 1) := by decide +kernel
theorem dd64_83 : decode cX4_call 83 = .ok (.invokevirtual 223, 3) := by decide +kernel
theorem dd64_86 : decode cX4_call 86 = .ok (.iinc 4 1, 3) := by decide +kernel
theorem dd64_89 : decode cX4_call 89 = .ok (.aload_n 0, 1) := by decide +kernel
theorem dd64_90 : decode cX4_call 90 = .ok (.bipush 44, 2) := by decide +kernel
theorem dd64_92 : decode cX4_call 92 = .ok (.invokevirtual 110, 3) := by decide +kernel
theorem dd64_95 : decode cX4_call 95 = .ok (.istore 5, 2) := by decide +kernel
theorem dd64_97 : decode cX4_call 97 = .ok (.iinc 6 1, 3) := by decide +kernel
theorem dd64_100 : decode cX4_call 100 = .ok (.goto (-54), 3) := by decide +kernel
theorem dd64_103 : decode cX4_call 103 = .ok (.aload_n 0, 1) := by decide +kernel
theorem dd64_104 : decode cX4_call 104 = .ok (.bipush 41, 2) := by decide +kernel
theorem dd64_106 : decode cX4_call 106 = .ok (.invokevirtual 125, 3) := by decide +kernel
theorem dd64_109 : decode cX4_call 109 = .ok (.aload_n 0, 1) := by decide +kernel
theorem dd64_110 : decode cX4_call 110 = .ok (.getfield 27, 3) := by decide +kernel
theorem dd64_113 : decode cX4_call 113 = .ok (.getfield 229, 3) := by decide +kernel
theorem dd64_116 : decode cX4_call 116 = .ok (.iload_n 1, 1) := by decide +kernel
theorem dd64_117 : decode cX4_call 117 = .ok (.iload_n 3, 1) := by decide +kernel
theorem dd64_118 : decode cX4_call 118 = .ok (.iastore, 1) := by decide +kernel
theorem dd64_119 : decode cX4_call 119 = .ok (.aload_n 0, 1) := by decide +kernel
theorem dd64_120 : decode cX4_call 120 = .ok (.getfield 35, 3) := by decide +kernel
theorem dd64_123 : decode cX4_call 123 = .ok (.ifCond .eq 35, 3) := by decide +kernel
theorem dd64_126 : decode cX4_call 126 = .ok (.aload_n 0, 1) := by decide +kernel
theorem dd64_127 : decode cX4_call 127 = .ok (.getfield 51, 3) := by decide +kernel
theorem dd64_130 : decode cX4_call 130 = .ok (.iconst (-1), 1) := by decide +kernel
theorem dd64_131 : decode cX4_call 131 = .ok (.if_icmp .ne 27, 3) := by decide +kernel
theorem dd64_134 : decode cX4_call 134 = .ok (.iload_n 3, 1) := by decide +kernel
theorem dd64_135 : decode cX4_call 135 = .ok (.iconst (-1), 1) := by decide +kernel
theorem dd64_136 : decode cX4_call 136 = .ok (.if_icmp .eq 22, 3) := by decide +kernel
theorem dd64_139 : decode cX4_call 139 = .ok (.iload 4, 2) := by decide +kernel
theorem dd64_141 : decode cX4_call 141 = .ok (.aload_n 0, 1) := by decide +kernel
theorem dd64_142 : decode cX4_call 142 = .ok (.getfield 23, 3) := by decide +kernel
theorem dd64_145 : decode cX4_call 145 = .ok (.getfield 144, 3) := by decide +kernel
theorem dd64_148 : decode cX4_call 148 = .ok (.iload_n 3, 1) := by decide +kernel
theorem dd64_149 : decode cX4_call 149 = .ok (.iaload, 1) := by decide +kernel
theorem dd64_150 : decode cX4_call 150 = .ok (.if_icmp .eq 8, 3) := by decide +kernel
theorem dd64_153 : decode cX4_call 153 = .ok (.aload_n 0, 1) := by decide +kernel
theorem dd64_154 : decode cX4_call 154 = .ok (.iload_n 2, 1) := by decide +kernel
theorem dd64_155 : decode cX4_call 155 = .ok (.putfield 51, 3) := by decide +kernel
theorem dd64_158 : decode cX4_call 158 = .ok (.return_, 1) := by decide +kernel
def f64_103 (n : Nat) (x1 : Int32) (x2 : Int32) (x3 : Int32) (x4 : Int32) (s : zσ) : Option zσ :=
    yb0 (f37 n (41 : Int32) s) fun u1 =>
    zrd 6 (u1.2.2 1004 5) fun a2 =>
    if zin? x1 200 = true then
    zlet (sI u1 (a2 + 3) (nx x1) x3) fun u3 =>
    if (u3.1 1004 7) = (0 : Int32) then
    some u3
    else if (u3.1 1004 12) = (-1 : Int32) then
    if x3 = (-1 : Int32) then
    some u3
    else zrd 9 (u3.2.2 1004 4) fun a4 =>
    if zin? x3 6 = true then
    if x4 = (u3.1 (a4 + 18) (nx x3)) then
    some u3
    else zlet (sI u3 1004 12 x2) fun u5 =>
    some u5
    else none
    else some u3
    else none
set_option maxRecDepth 20000 in
theorem f64_103_ok {n d : Nat} {x1 : Int32} {x2 : Int32} {x3 : Int32} {x4 : Int32} {s : zσ} {s2 : zσ} (hd : 138 ≤ d) (h : f64_103 n x1 x2 x3 x4 s = some s2) {w : zσ} {fz : Bool} {L : Nat} {xs : Nat → Int32} : zGo (zX fz L xs) d q_64 (103, [(0, .ref 1004), (1, .int x1), (2, .int x2), (3, .int x3), (4, .int x4)], [], zmk s w, 0, 0) (none, zmk s2 w, 0, 0) := by
  obtain ⟨d, rfl⟩ : ∃ d0, d = d0 + 1 := ⟨d - 1, by omega⟩
  unfold f64_103 at h
  refine zGo_s (pc' := 104) (st' := [.ref 1004]) dd64_103 rfl ?_
  refine zGo_s (pc' := 106) (st' := [.int (41 : Int32), .ref 1004]) dd64_104 rfl ?_
  obtain ⟨u1, hq, h⟩ := obn0 h
  refine zCV0 (As := [.int (41 : Int32)]) (rest := []) (b := 1004) (q' := q_37) dd64_106 rfl rfl (rcv_c rfl rfl (by decide)) rfl rfl rfl (f37_ok (d := d) (by omega)  hq) ?_
  refine zGo_s (pc' := 110) (st' := [.ref 1004]) dd64_109 rfl ?_
  obtain ⟨a2, e_a2, c_a2, h⟩ := ordd h
  refine cGR dd64_110 rfl rfl rfl rfl e_a2 ?_
  refine cGF (e := (a2 + 3)) dd64_113 rfl (ck6_s c_a2).1 (ck6_s c_a2).2 rfl (cf6_2 c_a2).1 ?_
  refine zGo_s (pc' := 117) (st' := [.int x1, .ref (a2 + 3)]) dd64_116 rfl ?_
  refine zGo_s (pc' := 118) (st' := [.int x3, .int x1, .ref (a2 + 3)]) dd64_117 rfl ?_
  obtain ⟨hi, h⟩ := ochk h
  obtain ⟨u3, e_u3, h⟩ := olet h
  refine cIS dd64_118 (cf6_2 c_a2).2.1 (cf6_2 c_a2).2.2 hi e_u3 ?_
  refine zGo_s (pc' := 120) (st' := [.ref 1004]) dd64_119 rfl ?_
  refine cGI dd64_120 rfl rfl rfl rfl ?_
  rcases oite h with ⟨hc, h⟩ | ⟨hc, h⟩
  · refine zUT dd64_123 rfl (kEqT hc) ?_
    obtain rfl := ore0 h
    exact zGo_ret dd64_158 rfl rfl
  · refine zUF dd64_123 (kEqF hc) ?_
    refine zGo_s (pc' := 127) (st' := [.ref 1004]) dd64_126 rfl ?_
    refine cGI dd64_127 rfl rfl rfl rfl ?_
    refine zGo_s (pc' := 131) (st' := [.int (-1 : Int32), .int (u3.1 1004 12)]) dd64_130 rfl ?_
    rcases oite h with ⟨hc, h⟩ | ⟨hc, h⟩
    · refine zIF dd64_131 (kNeF hc) ?_
      refine zGo_s (pc' := 135) (st' := [.int x3]) dd64_134 rfl ?_
      refine zGo_s (pc' := 136) (st' := [.int (-1 : Int32), .int x3]) dd64_135 rfl ?_
      rcases oite h with ⟨hc, h⟩ | ⟨hc, h⟩
      · refine zIT dd64_136 rfl (kEqT hc) ?_
        obtain rfl := ore0 h
        exact zGo_ret dd64_158 rfl rfl
      · refine zIF dd64_136 (kEqF hc) ?_
        refine zGo_s (pc' := 141) (st' := [.int x4]) dd64_139 rfl ?_
        refine zGo_s (pc' := 142) (st' := [.ref 1004, .int x4]) dd64_141 rfl ?_
        obtain ⟨a4, e_a4, c_a4, h⟩ := ordd h
        refine cGR dd64_142 rfl rfl rfl rfl e_a4 ?_
        refine cGF (e := (a4 + 18)) dd64_145 rfl (ck9_s c_a4).1 (ck9_s c_a4).2 rfl (cf9_8 c_a4).1 ?_
        refine zGo_s (pc' := 149) (st' := [.int x3, .ref (a4 + 18), .int x4]) dd64_148 rfl ?_
        obtain ⟨hi, h⟩ := ochk h
        refine cIA dd64_149 (cf9_8 c_a4).2.1 (cf9_8 c_a4).2.2 hi ?_
        rcases oite h with ⟨hc, h⟩ | ⟨hc, h⟩
        · refine zIT dd64_150 rfl (kEqT hc) ?_
          obtain rfl := ore0 h
          exact zGo_ret dd64_158 rfl rfl
        · refine zIF dd64_150 (kEqF hc) ?_
          refine zGo_s (pc' := 154) (st' := [.ref 1004]) dd64_153 rfl ?_
          refine zGo_s (pc' := 155) (st' := [.int x2, .ref 1004]) dd64_154 rfl ?_
          obtain ⟨u5, e_u5, h⟩ := olet h
          refine cPI dd64_155 rfl rfl rfl rfl rfl rfl e_u5 ?_
          obtain rfl := ore0 h
          exact zGo_ret dd64_158 rfl rfl
    · refine zIT dd64_131 rfl (kNeT hc) ?_
      obtain rfl := ore0 h
      exact zGo_ret dd64_158 rfl rfl
def f64_82 (n : Nat) (r46 : Int32 → Int32 → Int32 → Int32 → Int32 → Int32 → zσ → Option zσ) (x1 : Int32) (x2 : Int32) (x3 : Int32) (x4 : Int32) (x6 : Int32) (s : zσ) : Option zσ :=
    yb0 (f49 n (f52 n 20) s) fun u1 =>
    yb1 (f39 n (44 : Int32) u1) fun v3 u2 =>
    r46 x1 x2 x3 (x4 + (1 : Int32)) v3 (x6 + (1 : Int32)) u2
set_option maxRecDepth 20000 in
theorem f64_82_ok {n d : Nat} {r46 : Int32 → Int32 → Int32 → Int32 → Int32 → Int32 → zσ → Option zσ} {x1 : Int32} {x2 : Int32} {x3 : Int32} {x4 : Int32} {x6 : Int32} {s : zσ} {s2 : zσ} (hd : 138 ≤ d) (hr46 : ∀ (x1 : Int32) (x2 : Int32) (x3 : Int32) (x4 : Int32) (x5 : Int32) (x6 : Int32) (s : zσ) (s2 : zσ), r46 x1 x2 x3 x4 x5 x6 s = some s2 → ∀ {w : zσ} {fz : Bool} {L : Nat} {xs : Nat → Int32}, zGo (zX fz L xs) d q_64 (46, [(0, .ref 1004), (1, .int x1), (2, .int x2), (3, .int x3), (4, .int x4), (5, .int x5), (6, .int x6)], [], zmk s w, 0, 0) (none, zmk s2 w, 0, 0)) (h : f64_82 n r46 x1 x2 x3 x4 x6 s = some s2) {w : zσ} {fz : Bool} {L : Nat} {xs : Nat → Int32} : zGo (zX fz L xs) d q_64 (82, [(0, .ref 1004), (1, .int x1), (2, .int x2), (3, .int x3), (4, .int x4), (6, .int x6)], [], zmk s w, 0, 0) (none, zmk s2 w, 0, 0) := by
  obtain ⟨d, rfl⟩ : ∃ d0, d = d0 + 1 := ⟨d - 1, by omega⟩
  unfold f64_82 at h
  refine zGo_s (pc' := 83) (st' := [.ref 1004]) dd64_82 rfl ?_
  obtain ⟨u1, hq, h⟩ := obn0 h
  refine zCV0 (As := []) (rest := []) (b := 1004) (q' := q_49) dd64_83 rfl rfl (rcv_c rfl rfl (by decide)) rfl rfl rfl (f49_ok (d := d) (Df := 134) (by omega) f52_okk20  hq) ?_
  refine zGo_s (pc' := 89) (st' := []) (lv' := [(4, .int (x4 + (1 : Int32))), (0, .ref 1004), (1, .int x1), (2, .int x2), (3, .int x3), (6, .int x6)]) dd64_86 rfl ?_
  refine zGo_s (pc' := 90) (st' := [.ref 1004]) dd64_89 rfl ?_
  refine zGo_s (pc' := 92) (st' := [.int (44 : Int32), .ref 1004]) dd64_90 rfl ?_
  obtain ⟨v3, u2, hq, h⟩ := obnd h
  refine zCV1 (As := [.int (44 : Int32)]) (rest := []) (b := 1004) (q' := q_39) dd64_92 rfl rfl (rcv_c rfl rfl (by decide)) rfl rfl rfl (f39_ok (d := d) (by omega)  hq) ?_
  refine zGo_s (pc' := 97) (st' := []) (lv' := [(5, .int v3), (4, .int (x4 + (1 : Int32))), (0, .ref 1004), (1, .int x1), (2, .int x2), (3, .int x3), (6, .int x6)]) dd64_95 rfl ?_
  refine zGo_s (pc' := 100) (st' := []) (lv' := [(6, .int (x6 + (1 : Int32))), (5, .int v3), (4, .int (x4 + (1 : Int32))), (0, .ref 1004), (1, .int x1), (2, .int x2), (3, .int x3)]) dd64_97 rfl ?_
  refine zGo_s (pc' := 46) (st' := []) dd64_100 rfl ?_
  exact zGo_lv (lv := [(0, .ref 1004), (1, .int x1), (2, .int x2), (3, .int x3), (4, .int (x4 + (1 : Int32))), (5, .int v3), (6, .int (x6 + (1 : Int32)))]) ⟨by simp, by simp, by simp⟩ (hr46 _ _ _ _ _ _ _ _ h)
def f64_46 (n : Nat) : Nat → Int32 → Int32 → Int32 → Int32 → Int32 → Int32 → zσ → Option zσ
  | 0, _, _, _, _, _, _, _ => none
  | j + 1, x1, x2, x3, x4, x5, x6, s =>
    if x5 = (0 : Int32) then
    f64_103 n x1 x2 x3 x4 s
    else if (3 : Int32) < x6 then
    f64_103 n x1 x2 x3 x4 s
    else if x6 = (3 : Int32) then
    yb1 (f65 n (s.1 1001 4) s) fun v2 u1 =>
    if v2 = (0 : Int32) then
    f64_82 n (f64_46 n j) x1 x2 x3 x4 x6 u1
    else yb1 (f32 n (3 : Int32) u1) fun v4 u3 =>
    f64_82 n (f64_46 n j) x1 x2 x3 x4 x6 u3
    else f64_82 n (f64_46 n j) x1 x2 x3 x4 x6 s
set_option maxRecDepth 20000 in
theorem f64_46_ok {n d : Nat} (hd : 138 ≤ d) : ∀ (j : Nat) (x1 : Int32) (x2 : Int32) (x3 : Int32) (x4 : Int32) (x5 : Int32) (x6 : Int32) (s : zσ) (s2 : zσ), f64_46 n j x1 x2 x3 x4 x5 x6 s = some s2 → ∀ {w : zσ} {fz : Bool} {L : Nat} {xs : Nat → Int32}, zGo (zX fz L xs) d q_64 (46, [(0, .ref 1004), (1, .int x1), (2, .int x2), (3, .int x3), (4, .int x4), (5, .int x5), (6, .int x6)], [], zmk s w, 0, 0) (none, zmk s2 w, 0, 0) := by
  obtain ⟨d, rfl⟩ : ∃ d0, d = d0 + 1 := ⟨d - 1, by omega⟩
  intro j
  induction j with
  | zero => intro x1 x2 x3 x4 x5 x6 s s2 h; cases h
  | succ j ih =>
    intro x1 x2 x3 x4 x5 x6 s s2 h w fz L xs
    rw [f64_46] at h
    refine zGo_s (pc' := 48) (st' := [.int x5]) dd64_46 rfl ?_
    rcases oite h with ⟨hc, h⟩ | ⟨hc, h⟩
    · refine zUT dd64_48 rfl (kEqT hc) ?_
      exact zGo_lv (lv := [(0, .ref 1004), (1, .int x1), (2, .int x2), (3, .int x3), (4, .int x4)]) ⟨by simp, by simp, by simp⟩ (f64_103_ok hd h)
    · refine zUF dd64_48 (kEqF hc) ?_
      refine zGo_s (pc' := 53) (st' := [.int x6]) dd64_51 rfl ?_
      refine zGo_s (pc' := 54) (st' := [.int (3 : Int32), .int x6]) dd64_53 rfl ?_
      rcases oite h with ⟨hc, h⟩ | ⟨hc, h⟩
      · refine zIT dd64_54 rfl (kGtT hc) ?_
        exact zGo_lv (lv := [(0, .ref 1004), (1, .int x1), (2, .int x2), (3, .int x3), (4, .int x4)]) ⟨by simp, by simp, by simp⟩ (f64_103_ok hd h)
      · refine zIF dd64_54 (kGtF hc) ?_
        refine zGo_s (pc' := 59) (st' := [.int x6]) dd64_57 rfl ?_
        refine zGo_s (pc' := 60) (st' := [.int (3 : Int32), .int x6]) dd64_59 rfl ?_
        rcases oite h with ⟨hc, h⟩ | ⟨hc, h⟩
        · refine zIF dd64_60 (kNeF hc) ?_
          refine zGo_s (pc' := 64) (st' := [.ref 1004]) dd64_63 rfl ?_
          refine cGF (e := 1001) dd64_64 rfl rfl rfl rfl rfl ?_
          refine cGI dd64_67 rfl rfl rfl rfl ?_
          obtain ⟨v2, u1, hq, h⟩ := obnd h
          refine zCS1 (As := [.int (s.1 1001 4)]) (rest := []) (q' := q_65) dd64_70 rfl rfl rfl rfl rfl (f65_ok (d := d) (by omega)  hq) ?_
          rcases oite h with ⟨hc, h⟩ | ⟨hc, h⟩
          · refine zUT dd64_73 rfl (kEqT hc) ?_
            exact zGo_lv (lv := [(0, .ref 1004), (1, .int x1), (2, .int x2), (3, .int x3), (4, .int x4), (6, .int x6)]) ⟨by simp, by simp, by simp⟩ (f64_82_ok hd ih h)
          · refine zUF dd64_73 (kEqF hc) ?_
            refine zGo_s (pc' := 77) (st' := [.ref 1004]) dd64_76 rfl ?_
            refine zGo_s (pc' := 78) (st' := [.int (3 : Int32), .ref 1004]) dd64_77 rfl ?_
            obtain ⟨v4, u3, hq, h⟩ := obnd h
            refine zCV1 (As := [.int (3 : Int32)]) (rest := []) (b := 1004) (q' := q_32) dd64_78 rfl rfl (rcv_c rfl rfl (by decide)) rfl rfl rfl (f32_ok (d := d) (by omega)  hq) ?_
            refine zGo_s (pc' := 82) (st' := []) dd64_81 rfl ?_
            exact zGo_lv (lv := [(0, .ref 1004), (1, .int x1), (2, .int x2), (3, .int x3), (4, .int x4), (6, .int x6)]) ⟨by simp, by simp, by simp⟩ (f64_82_ok hd ih h)
        · refine zIT dd64_60 rfl (kNeT hc) ?_
          exact zGo_lv (lv := [(0, .ref 1004), (1, .int x1), (2, .int x2), (3, .int x3), (4, .int x4), (6, .int x6)]) ⟨by simp, by simp, by simp⟩ (f64_82_ok hd ih h)
def f64_41 (n : Nat) (x1 : Int32) (x2 : Int32) (x3 : Int32) (x4 : Int32) (y0 : Int32) (s : zσ) : Option zσ :=
    f64_46 n n x1 x2 x3 x4 y0 (0 : Int32) s
set_option maxRecDepth 20000 in
theorem f64_41_ok {n d : Nat} {x1 : Int32} {x2 : Int32} {x3 : Int32} {x4 : Int32} {y0 : Int32} {s : zσ} {s2 : zσ} (hd : 138 ≤ d) (h : f64_41 n x1 x2 x3 x4 y0 s = some s2) {w : zσ} {fz : Bool} {L : Nat} {xs : Nat → Int32} : zGo (zX fz L xs) d q_64 (41, [(0, .ref 1004), (1, .int x1), (2, .int x2), (3, .int x3), (4, .int x4)], [.int y0], zmk s w, 0, 0) (none, zmk s2 w, 0, 0) := by
  obtain ⟨d, rfl⟩ : ∃ d0, d = d0 + 1 := ⟨d - 1, by omega⟩
  unfold f64_41 at h
  refine zGo_s (pc' := 43) (st' := []) (lv' := [(5, .int y0), (0, .ref 1004), (1, .int x1), (2, .int x2), (3, .int x3), (4, .int x4)]) dd64_41 rfl ?_
  refine zGo_s (pc' := 44) (st' := [.int (0 : Int32)]) dd64_43 rfl ?_
  refine zGo_s (pc' := 46) (st' := []) (lv' := [(6, .int (0 : Int32)), (5, .int y0), (0, .ref 1004), (1, .int x1), (2, .int x2), (3, .int x3), (4, .int x4)]) dd64_44 rfl ?_
  exact zGo_lv (lv := [(0, .ref 1004), (1, .int x1), (2, .int x2), (3, .int x3), (4, .int x4), (5, .int y0), (6, .int (0 : Int32))]) ⟨by simp, by simp, by simp⟩ (f64_46_ok hd _ _ _ _ _ _ _ _ _ h)
def f64 (n : Nat) (x1 : Int32) (s : zσ) : Option zσ :=
    zlet ((s.1 1001 5)) fun v1 =>
    yb1 (f57 n (7 : Int32) s) fun v3 u2 =>
    yb0 (f37 n (40 : Int32) u2) fun u4 =>
    if (u4.1 1001 4) = (41 : Int32) then
    f64_41 n x1 v1 v3 (0 : Int32) (0 : Int32) u4
    else f64_41 n x1 v1 v3 (0 : Int32) (1 : Int32) u4
set_option maxRecDepth 20000 in
theorem f64_ok {n d : Nat} {x1 : Int32} {s : zσ} {s2 : zσ} (hd : 138 ≤ d) (h : f64 n x1 s = some s2) {w : zσ} {fz : Bool} {L : Nat} {xs : Nat → Int32} : zGo (zX fz L xs) d q_64 (0, [(0, .ref 1004), (1, .int x1)], [], zmk s w, 0, 0) (none, zmk s2 w, 0, 0) := by
  obtain ⟨d, rfl⟩ : ∃ d0, d = d0 + 1 := ⟨d - 1, by omega⟩
  unfold f64 at h
  refine zGo_s (pc' := 1) (st' := [.ref 1004]) dd64_0 rfl ?_
  refine cGF (e := 1001) dd64_1 rfl rfl rfl rfl rfl ?_
  refine cGI dd64_4 rfl rfl rfl rfl ?_
  obtain ⟨v1, e_v1, h⟩ := olet h
  refine zGo_is1 e_v1 dd64_7 (x' := (8, [(2, .int v1), (0, .ref 1004), (1, .int x1)], [], _, _, _)) rfl ?_
  refine zGo_s (pc' := 9) (st' := [.ref 1004]) dd64_8 rfl ?_
  refine zGo_s (pc' := 11) (st' := [.int (7 : Int32), .ref 1004]) dd64_9 rfl ?_
  obtain ⟨v3, u2, hq, h⟩ := obnd h
  refine zCV1 (As := [.int (7 : Int32)]) (rest := []) (b := 1004) (q' := q_57) dd64_11 rfl rfl (rcv_c rfl rfl (by decide)) rfl rfl rfl (f57_ok (d := d) (by omega)  hq) ?_
  refine zGo_s (pc' := 15) (st' := []) (lv' := [(3, .int v3), (2, .int v1), (0, .ref 1004), (1, .int x1)]) dd64_14 rfl ?_
  refine zGo_s (pc' := 16) (st' := [.ref 1004]) dd64_15 rfl ?_
  refine zGo_s (pc' := 18) (st' := [.int (40 : Int32), .ref 1004]) dd64_16 rfl ?_
  obtain ⟨u4, hq, h⟩ := obn0 h
  refine zCV0 (As := [.int (40 : Int32)]) (rest := []) (b := 1004) (q' := q_37) dd64_18 rfl rfl (rcv_c rfl rfl (by decide)) rfl rfl rfl (f37_ok (d := d) (by omega)  hq) ?_
  refine zGo_s (pc' := 22) (st' := [.int (0 : Int32)]) dd64_21 rfl ?_
  refine zGo_s (pc' := 24) (st' := []) (lv' := [(4, .int (0 : Int32)), (3, .int v3), (2, .int v1), (0, .ref 1004), (1, .int x1)]) dd64_22 rfl ?_
  refine zGo_s (pc' := 25) (st' := [.ref 1004]) dd64_24 rfl ?_
  refine cGF (e := 1001) dd64_25 rfl rfl rfl rfl rfl ?_
  refine cGI dd64_28 rfl rfl rfl rfl ?_
  refine zGo_s (pc' := 33) (st' := [.int (41 : Int32), .int (u4.1 1001 4)]) dd64_31 rfl ?_
  rcases oite h with ⟨hc, h⟩ | ⟨hc, h⟩
  · refine zIT dd64_33 rfl (kEqT hc) ?_
    refine zGo_s (pc' := 41) (st' := [.int (0 : Int32)]) dd64_40 rfl ?_
    exact zGo_lv (lv := [(0, .ref 1004), (1, .int x1), (2, .int v1), (3, .int v3), (4, .int (0 : Int32))]) ⟨by simp, by simp, by simp⟩ (f64_41_ok hd h)
  · refine zIF dd64_33 (kEqF hc) ?_
    refine zGo_s (pc' := 37) (st' := [.int (1 : Int32)]) dd64_36 rfl ?_
    refine zGo_s (pc' := 41) (st' := [.int (1 : Int32)]) dd64_37 rfl ?_
    exact zGo_lv (lv := [(0, .ref 1004), (1, .int x1), (2, .int v1), (3, .int v3), (4, .int (0 : Int32))]) ⟨by simp, by simp, by simp⟩ (f64_41_ok hd h)
