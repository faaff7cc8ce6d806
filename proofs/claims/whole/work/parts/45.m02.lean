/-! PH$Reader.node()V -/
theorem dd58_0 : decode cX4_node 0 = .ok (.aload_n 0, 1) := by decide +kernel
theorem dd58_1 : decode cX4_node 1 = .ok (.getfield 27, 3) := by decide +kernel
theorem dd58_4 : decode cX4_node 4 = .ok (.getfield 270, 3) := by decide +kernel
theorem dd58_7 : decode cX4_node 7 = .ok (.sipush 400, 3) := by decide +kernel
theorem dd58_10 : decode cX4_node 10 = .ok (.if_icmp .lt 12, 3) := by decide +kernel
theorem dd58_13 : decode cX4_node 13 = .ok (.aload_n 0, 1) := by decide +kernel
theorem dd58_14 : decode cX4_node 14 = .ok (.iconst 3, 1) := by decide +kernel
theorem dd58_15 : decode cX4_node 15 = .ok (.invokevirtual 73, 3) := by decide +kernel
theorem dd58_18 : decode cX4_node 18 = .ok (.pop, 1) := by decide +kernel
theorem dd58_19 : decode cX4_node 19 = .ok (.goto 34, 3) := by decide +kernel
theorem dd58_22 : decode cX4_node 22 = .ok (.aload_n 0, 1) := by decide +kernel
theorem dd58_23 : decode cX4_node 23 = .ok (.getfield 54, 3) := by decide +kernel
theorem dd58_26 : decode cX4_node 26 = .ok (.getfield 68, 3) := by decide +kernel
theorem dd58_29 : decode cX4_node 29 = .ok (.iconst 4, 1) := by decide +kernel
theorem dd58_30 : decode cX4_node 30 = .ok (.if_icmp .eq 23, 3) := by decide +kernel
theorem dd58_33 : decode cX4_node 33 = .ok (.aload_n 0, 1) := by decide +kernel
theorem dd58_34 : decode cX4_node 34 = .ok (.getfield 27, 3) := by decide +kernel
theorem dd58_37 : decode cX4_node 37 = .ok (.dup, 1) := by decide +kernel
theorem dd58_38 : decode cX4_node 38 = .ok (.getfield 270, 3) := by decide +kernel
theorem dd58_41 : decode cX4_node 41 = .ok (.iconst 1, 1) := by decide +kernel
theorem dd58_42 : decode cX4_node 42 = .ok (.iadd, 1) := by decide +kernel
theorem dd58_43 : decode cX4_node 43 = .ok (.putfield 270, 3) := by decide +kernel
theorem dd58_46 : decode cX4_node 46 = .ok (.aload_n 0, 1) := by decide +kernel
theorem dd58_47 : decode cX4_node 47 = .ok (.getfield 54, 3) := by decide +kernel
theorem dd58_50 : decode cX4_node 50 = .ok (.invokevirtual 104, 3) := by decide +kernel
theorem dd58_53 : decode cX4_node 53 = .ok (.return_, 1) := by decide +kernel
def f58 (n : Nat) (s : zσ) : Option zσ :=
    zrd 6 (s.2.2 1004 5) fun a1 =>
    if (s.1 a1 10) < (400 : Int32) then
    if (s.1 1001 4) = (4 : Int32) then
    some s
    else zrd 6 (s.2.2 1004 5) fun a2 =>
    zlet (sI s a2 10 ((s.1 a2 10) + (1 : Int32))) fun u3 =>
    yb0 (f26 n u3) fun u4 =>
    some u4
    else yb1 (f32 n (3 : Int32) s) fun v6 u5 =>
    some u5
set_option maxRecDepth 20000 in
theorem f58_ok {n d : Nat} {s : zσ} {s2 : zσ} (hd : 8 ≤ d) (h : f58 n s = some s2) {w : zσ} {fz : Bool} {L : Nat} {xs : Nat → Int32} : zGo (zX fz L xs) d q_58 (0, [(0, .ref 1004)], [], zmk s w, 0, 0) (none, zmk s2 w, 0, 0) := by
  obtain ⟨d, rfl⟩ : ∃ d0, d = d0 + 1 := ⟨d - 1, by omega⟩
  unfold f58 at h
  refine zGo_s (pc' := 1) (st' := [.ref 1004]) dd58_0 rfl ?_
  obtain ⟨a1, e_a1, c_a1, h⟩ := ordd h
  refine cGR dd58_1 rfl rfl rfl rfl e_a1 ?_
  refine cGI dd58_4 rfl (ck6_s c_a1).1 (ck6_s c_a1).2 rfl ?_
  refine zGo_s (pc' := 10) (st' := [.int (400 : Int32), .int (s.1 a1 10)]) dd58_7 rfl ?_
  rcases oite h with ⟨hc, h⟩ | ⟨hc, h⟩
  · refine zIT dd58_10 rfl (kLtT hc) ?_
    refine zGo_s (pc' := 23) (st' := [.ref 1004]) dd58_22 rfl ?_
    refine cGF (e := 1001) dd58_23 rfl rfl rfl rfl rfl ?_
    refine cGI dd58_26 rfl rfl rfl rfl ?_
    refine zGo_s (pc' := 30) (st' := [.int (4 : Int32), .int (s.1 1001 4)]) dd58_29 rfl ?_
    rcases oite h with ⟨hc, h⟩ | ⟨hc, h⟩
    · refine zIT dd58_30 rfl (kEqT hc) ?_
      obtain rfl := ore0 h
      exact zGo_ret dd58_53 rfl rfl
    · refine zIF dd58_30 (kEqF hc) ?_
      refine zGo_s (pc' := 34) (st' := [.ref 1004]) dd58_33 rfl ?_
      obtain ⟨a2, e_a2, c_a2, h⟩ := ordd h
      refine cGR dd58_34 rfl rfl rfl rfl e_a2 ?_
      refine zGo_s (pc' := 38) (st' := [.ref a2, .ref a2]) dd58_37 rfl ?_
      refine cGI dd58_38 rfl (ck6_s c_a2).1 (ck6_s c_a2).2 rfl ?_
      refine zGo_s (pc' := 42) (st' := [.int (1 : Int32), .int (s.1 a2 10), .ref a2]) dd58_41 rfl ?_
      refine zGo_s (pc' := 43) (st' := [.int ((s.1 a2 10) + (1 : Int32)), .ref a2]) dd58_42 rfl ?_
      obtain ⟨u3, e_u3, h⟩ := olet h
      refine cPI dd58_43 rfl (ck6_s c_a2).1 (ck6_s c_a2).2 rfl rfl rfl e_u3 ?_
      refine zGo_s (pc' := 47) (st' := [.ref 1004]) dd58_46 rfl ?_
      refine cGF (e := 1001) dd58_47 rfl rfl rfl rfl rfl ?_
      obtain ⟨u4, hq, h⟩ := obn0 h
      refine zCV0 (As := []) (rest := []) (b := 1001) (q' := q_26) dd58_50 rfl rfl (rcv_c rfl rfl (by decide)) rfl rfl rfl (f26_ok (d := d) (by omega)  hq) ?_
      obtain rfl := ore0 h
      exact zGo_ret dd58_53 rfl rfl
  · refine zIF dd58_10 (kLtF hc) ?_
    refine zGo_s (pc' := 14) (st' := [.ref 1004]) dd58_13 rfl ?_
    refine zGo_s (pc' := 15) (st' := [.int (3 : Int32), .ref 1004]) dd58_14 rfl ?_
    obtain ⟨v6, u5, hq, h⟩ := obnd h
    refine zCV1 (As := [.int (3 : Int32)]) (rest := []) (b := 1004) (q' := q_32) dd58_15 rfl rfl (rcv_c rfl rfl (by decide)) rfl rfl rfl (f32_ok (d := d) (by omega)  hq) ?_
    refine zGo_s (pc' := 19) (st' := []) dd58_18 rfl ?_
    refine zGo_s (pc' := 53) (st' := []) dd58_19 rfl ?_
    obtain rfl := ore0 h
    exact zGo_ret dd58_53 rfl rfl
/-! PH$Reader.term()V -/
theorem dd51_0 : decode cX4_term 0 = .ok (.aload_n 0, 1) := by decide +kernel
theorem dd51_1 : decode cX4_term 1 = .ok (.invokevirtual 261, 3) := by decide +kernel
theorem dd51_4 : decode cX4_term 4 = .ok (.iconst 0, 1) := by decide +kernel
theorem dd51_5 : decode cX4_term 5 = .ok (.istore_n 1, 1) := by decide +kernel
theorem dd51_6 : decode cX4_term 6 = .ok (.iload_n 1, 1) := by decide +kernel
theorem dd51_7 : decode cX4_term 7 = .ok (.sipush 4000, 3) := by decide +kernel
theorem dd51_10 : decode cX4_term 10 = .ok (.if_icmp .ge 70, 3) := by decide +kernel
theorem dd51_13 : decode cX4_term 13 = .ok (.aload_n 0, 1) := by decide +kernel
theorem dd51_14 : decode cX4_term 14 = .ok (.getfield 54, 3) := by decide +kernel
theorem dd51_17 : decode cX4_term 17 = .ok (.getfield 68, 3) := by decide +kernel
theorem dd51_20 : decode cX4_term 20 = .ok (.bipush 42, 2) := by decide +kernel
theorem dd51_22 : decode cX4_term 22 = .ok (.if_icmp .eq 27, 3) := by decide +kernel
theorem dd51_25 : decode cX4_term 25 = .ok (.aload_n 0, 1) := by decide +kernel
theorem dd51_26 : decode cX4_term 26 = .ok (.getfield 54, 3) := by decide +kernel
theorem dd51_29 : decode cX4_term 29 = .ok (.getfield 68, 3) := by decide +kernel
theorem dd51_32 : decode cX4_term 32 = .ok (.bipush 47, 2) := by decide +kernel
theorem dd51_34 : decode cX4_term 34 = .ok (.if_icmp .eq 15, 3) := by decide +kernel
theorem dd51_37 : decode cX4_term 37 = .ok (.aload_n 0, 1) := by decide +kernel
theorem dd51_38 : decode cX4_term 38 = .ok (.getfield 54, 3) := by decide +kernel
theorem dd51_41 : decode cX4_term 41 = .ok (.getfield 68, 3) := by decide +kernel
theorem dd51_44 : decode cX4_term 44 = .ok (.bipush 37, 2) := by decide +kernel
theorem dd51_46 : decode cX4_term 46 = .ok (.if_icmp .ne 34, 3) := by decide +kernel
theorem dd51_49 : decode cX4_term 49 = .ok (.aload_n 0, 1) := by decide +kernel
theorem dd51_50 : decode cX4_term 50 = .ok (.getfield 54, 3) := by decide +kernel
theorem dd51_53 : decode cX4_term 53 = .ok (.getfield 68, 3) := by decide +kernel
theorem dd51_56 : decode cX4_term 56 = .ok (.istore_n 2, 1) := by decide +kernel
theorem dd51_57 : decode cX4_term 57 = .ok (.aload_n 0, 1) := by decide +kernel
theorem dd51_58 : decode cX4_term 58 = .ok (.invokevirtual 251, 3) := by decide +kernel
theorem dd51_61 : decode cX4_term 61 = .ok (.aload_n 0, 1) := by decide +kernel
theorem dd51_62 : decode cX4_term 62 = .ok (.invokevirtual 261, 3) := by decide +kernel
theorem dd51_65 : decode cX4_term 65 = .ok (.aload_n 0, 1) := by decide +kernel
theorem dd51_66 : decode cX4_term 66 = .ok (.getfield 27, 3) := by decide +kernel
theorem dd51_69 : decode cX4_term 69 = .ok (.iload_n 2, 1) := by decide +kernel
theorem dd51_70 : decode cX4_term 70 = .ok (.iconst 0, 1) := by decide +kernel
theorem dd51_71 : decode cX4_term 71 = .ok (.invokevirtual 254, 3) := by decide +kernel
theorem dd51_74 : decode cX4_term 74 = .ok (.iinc 1 1, 3) := by decide +kernel
theorem dd51_77 : decode cX4_term 77 = .ok (.goto (-71), 3) := by decide +kernel
theorem dd51_80 : decode cX4_term 80 = .ok (.return_, 1) := by decide +kernel
def f51_49 (n : Nat) (g : zσ → Option zσ) (r6 : Int32 → zσ → Option zσ) (x1 : Int32) (s : zσ) : Option zσ :=
    zlet ((s.1 1001 4)) fun v1 =>
    yb0 (f58 n s) fun u2 =>
    yb0 (g u2) fun u3 =>
    zrd 6 (u3.2.2 1004 5) fun a4 =>
    yb0 (f54 n a4 v1 (0 : Int32) u3) fun u5 =>
    r6 (x1 + (1 : Int32)) u5
set_option maxRecDepth 20000 in
theorem f51_49_ok {n d : Nat} {Df : Nat} {g : zσ → Option zσ} {r6 : Int32 → zσ → Option zσ} {x1 : Int32} {s : zσ} {s2 : zσ} (hd : Df + 1 ≤ d ∧ 8 ≤ Df) (hg : ∀ (s : zσ) (s2 : zσ), g s = some s2 → ∀ {d : Nat}, Df ≤ d → ∀ {w : zσ} {fz : Bool} {L : Nat} {xs : Nat → Int32}, zGo (zX fz L xs) d q_52 (0, [(0, .ref 1004)], [], zmk s w, 0, 0) (none, zmk s2 w, 0, 0)) (hr6 : ∀ (x1 : Int32) (s : zσ) (s2 : zσ), r6 x1 s = some s2 → ∀ {w : zσ} {fz : Bool} {L : Nat} {xs : Nat → Int32}, zGo (zX fz L xs) d q_51 (6, [(0, .ref 1004), (1, .int x1)], [], zmk s w, 0, 0) (none, zmk s2 w, 0, 0)) (h : f51_49 n g r6 x1 s = some s2) {w : zσ} {fz : Bool} {L : Nat} {xs : Nat → Int32} : zGo (zX fz L xs) d q_51 (49, [(0, .ref 1004), (1, .int x1)], [], zmk s w, 0, 0) (none, zmk s2 w, 0, 0) := by
  obtain ⟨d, rfl⟩ : ∃ d0, d = d0 + 1 := ⟨d - 1, by omega⟩
  unfold f51_49 at h
  refine zGo_s (pc' := 50) (st' := [.ref 1004]) dd51_49 rfl ?_
  refine cGF (e := 1001) dd51_50 rfl rfl rfl rfl rfl ?_
  refine cGI dd51_53 rfl rfl rfl rfl ?_
  obtain ⟨v1, e_v1, h⟩ := olet h
  refine zGo_is1 e_v1 dd51_56 (x' := (57, [(2, .int v1), (0, .ref 1004), (1, .int x1)], [], _, _, _)) rfl ?_
  refine zGo_s (pc' := 58) (st' := [.ref 1004]) dd51_57 rfl ?_
  obtain ⟨u2, hq, h⟩ := obn0 h
  refine zCV0 (As := []) (rest := []) (b := 1004) (q' := q_58) dd51_58 rfl rfl (rcv_c rfl rfl (by decide)) rfl rfl rfl (f58_ok (d := d) (by omega)  hq) ?_
  refine zGo_s (pc' := 62) (st' := [.ref 1004]) dd51_61 rfl ?_
  obtain ⟨u3, hq, h⟩ := obn0 h
  refine zCV0 (As := []) (rest := []) (b := 1004) (q' := q_52) dd51_62 rfl rfl (rcv_c rfl rfl (by decide)) rfl rfl rfl (hg _ _  hq (by omega)) ?_
  refine zGo_s (pc' := 66) (st' := [.ref 1004]) dd51_65 rfl ?_
  obtain ⟨a4, e_a4, c_a4, h⟩ := ordd h
  refine cGR dd51_66 rfl rfl rfl rfl e_a4 ?_
  refine zGo_s (pc' := 70) (st' := [.int v1, .ref a4]) dd51_69 rfl ?_
  refine zGo_s (pc' := 71) (st' := [.int (0 : Int32), .int v1, .ref a4]) dd51_70 rfl ?_
  obtain ⟨u5, hq, h⟩ := obn0 h
  refine zCV0 (As := [.int v1, .int (0 : Int32)]) (rest := []) (b := a4) (q' := q_54) dd51_71 rfl rfl (rcv_c (ck6_s c_a4).1 (ck6_s c_a4).2 (by decide)) rfl rfl rfl (f54_ok (d := d) (by omega) c_a4 hq) ?_
  refine zGo_s (pc' := 77) (st' := []) (lv' := [(1, .int (x1 + (1 : Int32))), (2, .int v1), (0, .ref 1004)]) dd51_74 rfl ?_
  refine zGo_s (pc' := 6) (st' := []) dd51_77 rfl ?_
  exact zGo_lv (lv := [(0, .ref 1004), (1, .int (x1 + (1 : Int32)))]) ⟨by simp, by simp, by simp⟩ (hr6 _ _ _ h)
def f51_6 (n : Nat) (g : zσ → Option zσ) : Nat → Int32 → zσ → Option zσ
  | 0, _, _ => none
  | j + 1, x1, s =>
    if x1 < (4000 : Int32) then
    if (s.1 1001 4) = (42 : Int32) then
    f51_49 n g (f51_6 n g j) x1 s
    else if (s.1 1001 4) = (47 : Int32) then
    f51_49 n g (f51_6 n g j) x1 s
    else if (s.1 1001 4) = (37 : Int32) then
    f51_49 n g (f51_6 n g j) x1 s
    else some s
    else some s
set_option maxRecDepth 20000 in
theorem f51_6_ok {n d : Nat} {Df : Nat} {g : zσ → Option zσ} (hd : Df + 1 ≤ d ∧ 8 ≤ Df) (hg : ∀ (s : zσ) (s2 : zσ), g s = some s2 → ∀ {d : Nat}, Df ≤ d → ∀ {w : zσ} {fz : Bool} {L : Nat} {xs : Nat → Int32}, zGo (zX fz L xs) d q_52 (0, [(0, .ref 1004)], [], zmk s w, 0, 0) (none, zmk s2 w, 0, 0)) : ∀ (j : Nat) (x1 : Int32) (s : zσ) (s2 : zσ), f51_6 n g j x1 s = some s2 → ∀ {w : zσ} {fz : Bool} {L : Nat} {xs : Nat → Int32}, zGo (zX fz L xs) d q_51 (6, [(0, .ref 1004), (1, .int x1)], [], zmk s w, 0, 0) (none, zmk s2 w, 0, 0) := by
  obtain ⟨d, rfl⟩ : ∃ d0, d = d0 + 1 := ⟨d - 1, by omega⟩
  intro j
  induction j with
  | zero => intro x1 s s2 h; cases h
  | succ j ih =>
    intro x1 s s2 h w fz L xs
    rw [f51_6] at h
    refine zGo_s (pc' := 7) (st' := [.int x1]) dd51_6 rfl ?_
    refine zGo_s (pc' := 10) (st' := [.int (4000 : Int32), .int x1]) dd51_7 rfl ?_
    rcases oite h with ⟨hc, h⟩ | ⟨hc, h⟩
    · refine zIF dd51_10 (kGeF hc) ?_
      refine zGo_s (pc' := 14) (st' := [.ref 1004]) dd51_13 rfl ?_
      refine cGF (e := 1001) dd51_14 rfl rfl rfl rfl rfl ?_
      refine cGI dd51_17 rfl rfl rfl rfl ?_
      refine zGo_s (pc' := 22) (st' := [.int (42 : Int32), .int (s.1 1001 4)]) dd51_20 rfl ?_
      rcases oite h with ⟨hc, h⟩ | ⟨hc, h⟩
      · refine zIT dd51_22 rfl (kEqT hc) ?_
        exact f51_49_ok hd hg ih h
      · refine zIF dd51_22 (kEqF hc) ?_
        refine zGo_s (pc' := 26) (st' := [.ref 1004]) dd51_25 rfl ?_
        refine cGF (e := 1001) dd51_26 rfl rfl rfl rfl rfl ?_
        refine cGI dd51_29 rfl rfl rfl rfl ?_
        refine zGo_s (pc' := 34) (st' := [.int (47 : Int32), .int (s.1 1001 4)]) dd51_32 rfl ?_
        rcases oite h with ⟨hc, h⟩ | ⟨hc, h⟩
        · refine zIT dd51_34 rfl (kEqT hc) ?_
          exact f51_49_ok hd hg ih h
        · refine zIF dd51_34 (kEqF hc) ?_
          refine zGo_s (pc' := 38) (st' := [.ref 1004]) dd51_37 rfl ?_
          refine cGF (e := 1001) dd51_38 rfl rfl rfl rfl rfl ?_
          refine cGI dd51_41 rfl rfl rfl rfl ?_
          refine zGo_s (pc' := 46) (st' := [.int (37 : Int32), .int (s.1 1001 4)]) dd51_44 rfl ?_
          rcases oite h with ⟨hc, h⟩ | ⟨hc, h⟩
          · refine zIF dd51_46 (kNeF hc) ?_
            exact f51_49_ok hd hg ih h
          · refine zIT dd51_46 rfl (kNeT hc) ?_
            obtain rfl := ore0 h
            exact zGo_ret dd51_80 rfl rfl
    · refine zIT dd51_10 rfl (kGeT hc) ?_
      obtain rfl := ore0 h
      exact zGo_ret dd51_80 rfl rfl
def f51 (n : Nat) (g : zσ → Option zσ) (s : zσ) : Option zσ :=
    yb0 (g s) fun u1 =>
    f51_6 n g n (0 : Int32) u1
set_option maxRecDepth 20000 in
theorem f51_ok {n d : Nat} {Df : Nat} {g : zσ → Option zσ} {s : zσ} {s2 : zσ} (hd : Df + 1 ≤ d ∧ 8 ≤ Df) (hg : ∀ (s : zσ) (s2 : zσ), g s = some s2 → ∀ {d : Nat}, Df ≤ d → ∀ {w : zσ} {fz : Bool} {L : Nat} {xs : Nat → Int32}, zGo (zX fz L xs) d q_52 (0, [(0, .ref 1004)], [], zmk s w, 0, 0) (none, zmk s2 w, 0, 0)) (h : f51 n g s = some s2) {w : zσ} {fz : Bool} {L : Nat} {xs : Nat → Int32} : zGo (zX fz L xs) d q_51 (0, [(0, .ref 1004)], [], zmk s w, 0, 0) (none, zmk s2 w, 0, 0) := by
  obtain ⟨d, rfl⟩ : ∃ d0, d = d0 + 1 := ⟨d - 1, by omega⟩
  unfold f51 at h
  refine zGo_s (pc' := 1) (st' := [.ref 1004]) dd51_0 rfl ?_
  obtain ⟨u1, hq, h⟩ := obn0 h
  refine zCV0 (As := []) (rest := []) (b := 1004) (q' := q_52) dd51_1 rfl rfl (rcv_c rfl rfl (by decide)) rfl rfl rfl (hg _ _  hq (by omega)) ?_
  refine zGo_s (pc' := 5) (st' := [.int (0 : Int32)]) dd51_4 rfl ?_
  refine zGo_s (pc' := 6) (st' := []) (lv' := [(1, .int (0 : Int32)), (0, .ref 1004)]) dd51_5 rfl ?_
  exact zGo_lv (lv := [(0, .ref 1004), (1, .int (0 : Int32))]) ⟨by simp, by simp, by simp⟩ (f51_6_ok hd hg _ _ _ _ h)
/-! PH$Reader.sum()V -/
theorem dd50_0 : decode cX4_sum 0 = .ok (.aload_n 0, 1) := by decide +kernel
theorem dd50_1 : decode cX4_sum 1 = .ok (.invokevirtual 258, 3) := by decide +kernel
theorem dd50_4 : decode cX4_sum 4 = .ok (.iconst 0, 1) := by decide +kernel
theorem dd50_5 : decode cX4_sum 5 = .ok (.istore_n 1, 1) := by decide +kernel
theorem dd50_6 : decode cX4_sum 6 = .ok (.iload_n 1, 1) := by decide +kernel
theorem dd50_7 : decode cX4_sum 7 = .ok (.sipush 4000, 3) := by decide +kernel
theorem dd50_10 : decode cX4_sum 10 = .ok (.if_icmp .ge 58, 3) := by decide +kernel
theorem dd50_13 : decode cX4_sum 13 = .ok (.aload_n 0, 1) := by decide +kernel
theorem dd50_14 : decode cX4_sum 14 = .ok (.getfield 54, 3) := by decide +kernel
theorem dd50_17 : decode cX4_sum 17 = .ok (.getfield 68, 3) := by decide +kernel
theorem dd50_20 : decode cX4_sum 20 = .ok (.bipush 43, 2) := by decide +kernel
theorem dd50_22 : decode cX4_sum 22 = .ok (.if_icmp .eq 15, 3) := by decide +kernel
theorem dd50_25 : decode cX4_sum 25 = .ok (.aload_n 0, 1) := by decide +kernel
theorem dd50_26 : decode cX4_sum 26 = .ok (.getfield 54, 3) := by decide +kernel
theorem dd50_29 : decode cX4_sum 29 = .ok (.getfield 68, 3) := by decide +kernel
theorem dd50_32 : decode cX4_sum 32 = .ok (.bipush 45, 2) := by decide +kernel
theorem dd50_34 : decode cX4_sum 34 = .ok (.if_icmp .ne 34, 3) := by decide +kernel
theorem dd50_37 : decode cX4_sum 37 = .ok (.aload_n 0, 1) := by decide +kernel
theorem dd50_38 : decode cX4_sum 38 = .ok (.getfield 54, 3) := by decide +kernel
theorem dd50_41 : decode cX4_sum 41 = .ok (.getfield 68, 3) := by decide +kernel
theorem dd50_44 : decode cX4_sum 44 = .ok (.istore_n 2, 1) := by decide +kernel
theorem dd50_45 : decode cX4_sum 45 = .ok (.aload_n 0, 1) := by decide +kernel
theorem dd50_46 : decode cX4_sum 46 = .ok (.invokevirtual 251, 3) := by decide +kernel
theorem dd50_49 : decode cX4_sum 49 = .ok (.aload_n 0, 1) := by decide +kernel
theorem dd50_50 : decode cX4_sum 50 = .ok (.invokevirtual 258, 3) := by decide +kernel
theorem dd50_53 : decode cX4_sum 53 = .ok (.aload_n 0, 1) := by decide +kernel
theorem dd50_54 : decode cX4_sum 54 = .ok (.getfield 27, 3) := by decide +kernel
theorem dd50_57 : decode cX4_sum 57 = .ok (.iload_n 2, 1) := by decide +kernel
theorem dd50_58 : decode cX4_sum 58 = .ok (.iconst 0, 1) := by decide +kernel
theorem dd50_59 : decode cX4_sum 59 = .ok (.invokevirtual 254, 3) := by decide +kernel
theorem dd50_62 : decode cX4_sum 62 = .ok (.iinc 1 1, 3) := by decide +kernel
theorem dd50_65 : decode cX4_sum 65 = .ok (.goto (-59), 3) := by decide +kernel
theorem dd50_68 : decode cX4_sum 68 = .ok (.return_, 1) := by decide +kernel
def f50_37 (n : Nat) (g : zσ → Option zσ) (r6 : Int32 → zσ → Option zσ) (x1 : Int32) (s : zσ) : Option zσ :=
    zlet ((s.1 1001 4)) fun v1 =>
    yb0 (f58 n s) fun u2 =>
    yb0 (f51 n g u2) fun u3 =>
    zrd 6 (u3.2.2 1004 5) fun a4 =>
    yb0 (f54 n a4 v1 (0 : Int32) u3) fun u5 =>
    r6 (x1 + (1 : Int32)) u5
set_option maxRecDepth 20000 in
theorem f50_37_ok {n d : Nat} {Df : Nat} {g : zσ → Option zσ} {r6 : Int32 → zσ → Option zσ} {x1 : Int32} {s : zσ} {s2 : zσ} (hd : Df + 2 ≤ d ∧ 8 ≤ Df) (hg : ∀ (s : zσ) (s2 : zσ), g s = some s2 → ∀ {d : Nat}, Df ≤ d → ∀ {w : zσ} {fz : Bool} {L : Nat} {xs : Nat → Int32}, zGo (zX fz L xs) d q_52 (0, [(0, .ref 1004)], [], zmk s w, 0, 0) (none, zmk s2 w, 0, 0)) (hr6 : ∀ (x1 : Int32) (s : zσ) (s2 : zσ), r6 x1 s = some s2 → ∀ {w : zσ} {fz : Bool} {L : Nat} {xs : Nat → Int32}, zGo (zX fz L xs) d q_50 (6, [(0, .ref 1004), (1, .int x1)], [], zmk s w, 0, 0) (none, zmk s2 w, 0, 0)) (h : f50_37 n g r6 x1 s = some s2) {w : zσ} {fz : Bool} {L : Nat} {xs : Nat → Int32} : zGo (zX fz L xs) d q_50 (37, [(0, .ref 1004), (1, .int x1)], [], zmk s w, 0, 0) (none, zmk s2 w, 0, 0) := by
  obtain ⟨d, rfl⟩ : ∃ d0, d = d0 + 1 := ⟨d - 1, by omega⟩
  unfold f50_37 at h
  refine zGo_s (pc' := 38) (st' := [.ref 1004]) dd50_37 rfl ?_
  refine cGF (e := 1001) dd50_38 rfl rfl rfl rfl rfl ?_
  refine cGI dd50_41 rfl rfl rfl rfl ?_
  obtain ⟨v1, e_v1, h⟩ := olet h
  refine zGo_is1 e_v1 dd50_44 (x' := (45, [(2, .int v1), (0, .ref 1004), (1, .int x1)], [], _, _, _)) rfl ?_
  refine zGo_s (pc' := 46) (st' := [.ref 1004]) dd50_45 rfl ?_
  obtain ⟨u2, hq, h⟩ := obn0 h
  refine zCV0 (As := []) (rest := []) (b := 1004) (q' := q_58) dd50_46 rfl rfl (rcv_c rfl rfl (by decide)) rfl rfl rfl (f58_ok (d := d) (by omega)  hq) ?_
  refine zGo_s (pc' := 50) (st' := [.ref 1004]) dd50_49 rfl ?_
  obtain ⟨u3, hq, h⟩ := obn0 h
  refine zCV0 (As := []) (rest := []) (b := 1004) (q' := q_51) dd50_50 rfl rfl (rcv_c rfl rfl (by decide)) rfl rfl rfl (f51_ok (d := d) (by omega) hg  hq) ?_
  refine zGo_s (pc' := 54) (st' := [.ref 1004]) dd50_53 rfl ?_
  obtain ⟨a4, e_a4, c_a4, h⟩ := ordd h
  refine cGR dd50_54 rfl rfl rfl rfl e_a4 ?_
  refine zGo_s (pc' := 58) (st' := [.int v1, .ref a4]) dd50_57 rfl ?_
  refine zGo_s (pc' := 59) (st' := [.int (0 : Int32), .int v1, .ref a4]) dd50_58 rfl ?_
  obtain ⟨u5, hq, h⟩ := obn0 h
  refine zCV0 (As := [.int v1, .int (0 : Int32)]) (rest := []) (b := a4) (q' := q_54) dd50_59 rfl rfl (rcv_c (ck6_s c_a4).1 (ck6_s c_a4).2 (by decide)) rfl rfl rfl (f54_ok (d := d) (by omega) c_a4 hq) ?_
  refine zGo_s (pc' := 65) (st' := []) (lv' := [(1, .int (x1 + (1 : Int32))), (2, .int v1), (0, .ref 1004)]) dd50_62 rfl ?_
  refine zGo_s (pc' := 6) (st' := []) dd50_65 rfl ?_
  exact zGo_lv (lv := [(0, .ref 1004), (1, .int (x1 + (1 : Int32)))]) ⟨by simp, by simp, by simp⟩ (hr6 _ _ _ h)
def f50_6 (n : Nat) (g : zσ → Option zσ) : Nat → Int32 → zσ → Option zσ
  | 0, _, _ => none
  | j + 1, x1, s =>
    if x1 < (4000 : Int32) then
    if (s.1 1001 4) = (43 : Int32) then
    f50_37 n g (f50_6 n g j) x1 s
    else if (s.1 1001 4) = (45 : Int32) then
    f50_37 n g (f50_6 n g j) x1 s
    else some s
    else some s
set_option maxRecDepth 20000 in
theorem f50_6_ok {n d : Nat} {Df : Nat} {g : zσ → Option zσ} (hd : Df + 2 ≤ d ∧ 8 ≤ Df) (hg : ∀ (s : zσ) (s2 : zσ), g s = some s2 → ∀ {d : Nat}, Df ≤ d → ∀ {w : zσ} {fz : Bool} {L : Nat} {xs : Nat → Int32}, zGo (zX fz L xs) d q_52 (0, [(0, .ref 1004)], [], zmk s w, 0, 0) (none, zmk s2 w, 0, 0)) : ∀ (j : Nat) (x1 : Int32) (s : zσ) (s2 : zσ), f50_6 n g j x1 s = some s2 → ∀ {w : zσ} {fz : Bool} {L : Nat} {xs : Nat → Int32}, zGo (zX fz L xs) d q_50 (6, [(0, .ref 1004), (1, .int x1)], [], zmk s w, 0, 0) (none, zmk s2 w, 0, 0) := by
  obtain ⟨d, rfl⟩ : ∃ d0, d = d0 + 1 := ⟨d - 1, by omega⟩
  intro j
  induction j with
  | zero => intro x1 s s2 h; cases h
  | succ j ih =>
    intro x1 s s2 h w fz L xs
    rw [f50_6] at h
    refine zGo_s (pc' := 7) (st' := [.int x1]) dd50_6 rfl ?_
    refine zGo_s (pc' := 10) (st' := [.int (4000 : Int32), .int x1]) dd50_7 rfl ?_
    rcases oite h with ⟨hc, h⟩ | ⟨hc, h⟩
    · refine zIF dd50_10 (kGeF hc) ?_
      refine zGo_s (pc' := 14) (st' := [.ref 1004]) dd50_13 rfl ?_
      refine cGF (e := 1001) dd50_14 rfl rfl rfl rfl rfl ?_
      refine cGI dd50_17 rfl rfl rfl rfl ?_
      refine zGo_s (pc' := 22) (st' := [.int (43 : Int32), .int (s.1 1001 4)]) dd50_20 rfl ?_
      rcases oite h with ⟨hc, h⟩ | ⟨hc, h⟩
      · refine zIT dd50_22 rfl (kEqT hc) ?_
        exact f50_37_ok hd hg ih h
      · refine zIF dd50_22 (kEqF hc) ?_
        refine zGo_s (pc' := 26) (st' := [.ref 1004]) dd50_25 rfl ?_
        refine cGF (e := 1001) dd50_26 rfl rfl rfl rfl rfl ?_
        refine cGI dd50_29 rfl rfl rfl rfl ?_
        refine zGo_s (pc' := 34) (st' := [.int (45 : Int32), .int (s.1 1001 4)]) dd50_32 rfl ?_
        rcases oite h with ⟨hc, h⟩ | ⟨hc, h⟩
        · refine zIF dd50_34 (kNeF hc) ?_
          exact f50_37_ok hd hg ih h
        · refine zIT dd50_34 rfl (kNeT hc) ?_
          obtain rfl := ore0 h
          exact zGo_ret dd50_68 rfl rfl
    · refine zIT dd50_10 rfl (kGeT hc) ?_
      obtain rfl := ore0 h
      exact zGo_ret dd50_68 rfl rfl
def f50 (n : Nat) (g : zσ → Option zσ) (s : zσ) : Option zσ :=
    yb0 (f51 n g s) fun u1 =>
    f50_6 n g n (0 : Int32) u1
set_option maxRecDepth 20000 in
theorem f50_ok {n d : Nat} {Df : Nat} {g : zσ → Option zσ} {s : zσ} {s2 : zσ} (hd : Df + 2 ≤ d ∧ 8 ≤ Df) (hg : ∀ (s : zσ) (s2 : zσ), g s = some s2 → ∀ {d : Nat}, Df ≤ d → ∀ {w : zσ} {fz : Bool} {L : Nat} {xs : Nat → Int32}, zGo (zX fz L xs) d q_52 (0, [(0, .ref 1004)], [], zmk s w, 0, 0) (none, zmk s2 w, 0, 0)) (h : f50 n g s = some s2) {w : zσ} {fz : Bool} {L : Nat} {xs : Nat → Int32} : zGo (zX fz L xs) d q_50 (0, [(0, .ref 1004)], [], zmk s w, 0, 0) (none, zmk s2 w, 0, 0) := by
  obtain ⟨d, rfl⟩ : ∃ d0, d = d0 + 1 := ⟨d - 1, by omega⟩
  unfold f50 at h
  refine zGo_s (pc' := 1) (st' := [.ref 1004]) dd50_0 rfl ?_
  obtain ⟨u1, hq, h⟩ := obn0 h
  refine zCV0 (As := []) (rest := []) (b := 1004) (q' := q_51) dd50_1 rfl rfl (rcv_c rfl rfl (by decide)) rfl rfl rfl (f51_ok (d := d) (by omega) hg  hq) ?_
  refine zGo_s (pc' := 5) (st' := [.int (0 : Int32)]) dd50_4 rfl ?_
  refine zGo_s (pc' := 6) (st' := []) (lv' := [(1, .int (0 : Int32)), (0, .ref 1004)]) dd50_5 rfl ?_
  exact zGo_lv (lv := [(0, .ref 1004), (1, .int (0 : Int32))]) ⟨by simp, by simp, by simp⟩ (f50_6_ok hd hg _ _ _ _ h)
/-! PH$Reader.expression()V -/
theorem dd49_0 : decode cX4_expression 0 = .ok (.aload_n 0, 1) := by decide +kernel
theorem dd49_1 : decode cX4_expression 1 = .ok (.invokevirtual 248, 3) := by decide +kernel
theorem dd49_4 : decode cX4_expression 4 = .ok (.aload_n 0, 1) := by decide +kernel
theorem dd49_5 : decode cX4_expression 5 = .ok (.getfield 54, 3) := by decide +kernel
theorem dd49_8 : decode cX4_expression 8 = .ok (.getfield 68, 3) := by decide +kernel
theorem dd49_11 : decode cX4_expression 11 = .ok (.istore_n 1, 1) := by decide +kernel
theorem dd49_12 : decode cX4_expression 12 = .ok (.iload_n 1, 1) := by decide +kernel
theorem dd49_13 : decode cX4_expression 13 = .ok (.bipush 61, 2) := by decide +kernel
theorem dd49_15 : decode cX4_expression 15 = .ok (.if_icmp .eq 15, 3) := by decide +kernel
theorem dd49_18 : decode cX4_expression 18 = .ok (.iload_n 1, 1) := by decide +kernel
theorem dd49_19 : decode cX4_expression 19 = .ok (.bipush 60, 2) := by decide +kernel
theorem dd49_21 : decode cX4_expression 21 = .ok (.if_icmp .eq 9, 3) := by decide +kernel
theorem dd49_24 : decode cX4_expression 24 = .ok (.iload_n 1, 1) := by decide +kernel
theorem dd49_25 : decode cX4_expression 25 = .ok (.bipush 62, 2) := by decide +kernel
theorem dd49_27 : decode cX4_expression 27 = .ok (.if_icmp .ne 20, 3) := by decide +kernel
theorem dd49_30 : decode cX4_expression 30 = .ok (.aload_n 0, 1) := by decide +kernel
theorem dd49_31 : decode cX4_expression 31 = .ok (.invokevirtual 251, 3) := by decide +kernel
theorem dd49_34 : decode cX4_expression 34 = .ok (.aload_n 0, 1) := by decide +kernel
theorem dd49_35 : decode cX4_expression 35 = .ok (.invokevirtual 248, 3) := by decide +kernel
theorem dd49_38 : decode cX4_expression 38 = .ok (.aload_n 0, 1) := by decide +kernel
theorem dd49_39 : decode cX4_expression 39 = .ok (.getfield 27, 3) := by decide +kernel
theorem dd49_42 : decode cX4_expression 42 = .ok (.iload_n 1, 1) := by decide +kernel
theorem dd49_43 : decode cX4_expression 43 = .ok (.iconst 0, 1) := by decide +kernel
theorem dd49_44 : decode cX4_expression 44 = .ok (.invokevirtual 254, 3) := by decide +kernel
theorem dd49_47 : decode cX4_expression 47 = .ok (.return_, 1) := by decide +kernel
def f49_30 (n : Nat) (g : zσ → Option zσ) (x1 : Int32) (s : zσ) : Option zσ :=
    yb0 (f58 n s) fun u1 =>
    yb0 (f50 n g u1) fun u2 =>
    zrd 6 (u2.2.2 1004 5) fun a3 =>
    yb0 (f54 n a3 x1 (0 : Int32) u2) fun u4 =>
    some u4
set_option maxRecDepth 20000 in
theorem f49_30_ok {n d : Nat} {Df : Nat} {g : zσ → Option zσ} {x1 : Int32} {s : zσ} {s2 : zσ} (hd : Df + 3 ≤ d ∧ 8 ≤ Df) (hg : ∀ (s : zσ) (s2 : zσ), g s = some s2 → ∀ {d : Nat}, Df ≤ d → ∀ {w : zσ} {fz : Bool} {L : Nat} {xs : Nat → Int32}, zGo (zX fz L xs) d q_52 (0, [(0, .ref 1004)], [], zmk s w, 0, 0) (none, zmk s2 w, 0, 0)) (h : f49_30 n g x1 s = some s2) {w : zσ} {fz : Bool} {L : Nat} {xs : Nat → Int32} : zGo (zX fz L xs) d q_49 (30, [(0, .ref 1004), (1, .int x1)], [], zmk s w, 0, 0) (none, zmk s2 w, 0, 0) := by
  obtain ⟨d, rfl⟩ : ∃ d0, d = d0 + 1 := ⟨d - 1, by omega⟩
  unfold f49_30 at h
  refine zGo_s (pc' := 31) (st' := [.ref 1004]) dd49_30 rfl ?_
  obtain ⟨u1, hq, h⟩ := obn0 h
  refine zCV0 (As := []) (rest := []) (b := 1004) (q' := q_58) dd49_31 rfl rfl (rcv_c rfl rfl (by decide)) rfl rfl rfl (f58_ok (d := d) (by omega)  hq) ?_
  refine zGo_s (pc' := 35) (st' := [.ref 1004]) dd49_34 rfl ?_
  obtain ⟨u2, hq, h⟩ := obn0 h
  refine zCV0 (As := []) (rest := []) (b := 1004) (q' := q_50) dd49_35 rfl rfl (rcv_c rfl rfl (by decide)) rfl rfl rfl (f50_ok (d := d) (by omega) hg  hq) ?_
  refine zGo_s (pc' := 39) (st' := [.ref 1004]) dd49_38 rfl ?_
  obtain ⟨a3, e_a3, c_a3, h⟩ := ordd h
  refine cGR dd49_39 rfl rfl rfl rfl e_a3 ?_
  refine zGo_s (pc' := 43) (st' := [.int x1, .ref a3]) dd49_42 rfl ?_
  refine zGo_s (pc' := 44) (st' := [.int (0 : Int32), .int x1, .ref a3]) dd49_43 rfl ?_
  obtain ⟨u4, hq, h⟩ := obn0 h
  refine zCV0 (As := [.int x1, .int (0 : Int32)]) (rest := []) (b := a3) (q' := q_54) dd49_44 rfl rfl (rcv_c (ck6_s c_a3).1 (ck6_s c_a3).2 (by decide)) rfl rfl rfl (f54_ok (d := d) (by omega) c_a3 hq) ?_
  obtain rfl := ore0 h
  exact zGo_ret dd49_47 rfl rfl
def f49 (n : Nat) (g : zσ → Option zσ) (s : zσ) : Option zσ :=
    yb0 (f50 n g s) fun u1 =>
    zlet ((u1.1 1001 4)) fun v2 =>
    if v2 = (61 : Int32) then
    f49_30 n g v2 u1
    else if v2 = (60 : Int32) then
    f49_30 n g v2 u1
    else if v2 = (62 : Int32) then
    f49_30 n g v2 u1
    else some u1
set_option maxRecDepth 20000 in
theorem f49_ok {n d : Nat} {Df : Nat} {g : zσ → Option zσ} {s : zσ} {s2 : zσ} (hd : Df + 3 ≤ d ∧ 8 ≤ Df) (hg : ∀ (s : zσ) (s2 : zσ), g s = some s2 → ∀ {d : Nat}, Df ≤ d → ∀ {w : zσ} {fz : Bool} {L : Nat} {xs : Nat → Int32}, zGo (zX fz L xs) d q_52 (0, [(0, .ref 1004)], [], zmk s w, 0, 0) (none, zmk s2 w, 0, 0)) (h : f49 n g s = some s2) {w : zσ} {fz : Bool} {L : Nat} {xs : Nat → Int32} : zGo (zX fz L xs) d q_49 (0, [(0, .ref 1004)], [], zmk s w, 0, 0) (none, zmk s2 w, 0, 0) := by
  obtain ⟨d, rfl⟩ : ∃ d0, d = d0 + 1 := ⟨d - 1, by omega⟩
  unfold f49 at h
  refine zGo_s (pc' := 1) (st' := [.ref 1004]) dd49_0 rfl ?_
  obtain ⟨u1, hq, h⟩ := obn0 h
  refine zCV0 (As := []) (rest := []) (b := 1004) (q' := q_50) dd49_1 rfl rfl (rcv_c rfl rfl (by decide)) rfl rfl rfl (f50_ok (d := d) (by omega) hg  hq) ?_
  refine zGo_s (pc' := 5) (st' := [.ref 1004]) dd49_4 rfl ?_
  refine cGF (e := 1001) dd49_5 rfl rfl rfl rfl rfl ?_
  refine cGI dd49_8 rfl rfl rfl rfl ?_
  obtain ⟨v2, e_v2, h⟩ := olet h
  refine zGo_is1 e_v2 dd49_11 (x' := (12, [(1, .int v2), (0, .ref 1004)], [], _, _, _)) rfl ?_
  refine zGo_s (pc' := 13) (st' := [.int v2]) dd49_12 rfl ?_
  refine zGo_s (pc' := 15) (st' := [.int (61 : Int32), .int v2]) dd49_13 rfl ?_
  rcases oite h with ⟨hc, h⟩ | ⟨hc, h⟩
  · refine zIT dd49_15 rfl (kEqT hc) ?_
    exact zGo_lv (lv := [(0, .ref 1004), (1, .int v2)]) ⟨by simp, by simp, by simp⟩ (f49_30_ok hd hg h)
  · refine zIF dd49_15 (kEqF hc) ?_
    refine zGo_s (pc' := 19) (st' := [.int v2]) dd49_18 rfl ?_
    refine zGo_s (pc' := 21) (st' := [.int (60 : Int32), .int v2]) dd49_19 rfl ?_
    rcases oite h with ⟨hc, h⟩ | ⟨hc, h⟩
    · refine zIT dd49_21 rfl (kEqT hc) ?_
      exact zGo_lv (lv := [(0, .ref 1004), (1, .int v2)]) ⟨by simp, by simp, by simp⟩ (f49_30_ok hd hg h)
    · refine zIF dd49_21 (kEqF hc) ?_
      refine zGo_s (pc' := 25) (st' := [.int v2]) dd49_24 rfl ?_
      refine zGo_s (pc' := 27) (st' := [.int (62 : Int32), .int v2]) dd49_25 rfl ?_
      rcases oite h with ⟨hc, h⟩ | ⟨hc, h⟩
      · refine zIF dd49_27 (kNeF hc) ?_
        exact zGo_lv (lv := [(0, .ref 1004), (1, .int v2)]) ⟨by simp, by simp, by simp⟩ (f49_30_ok hd hg h)
      · refine zIT dd49_27 rfl (kNeT hc) ?_
        obtain rfl := ore0 h
        exact zGo_ret dd49_47 rfl rfl
/-! PH$Reader.countNode()V -/
theorem dd53_0 : decode cX4_countNode 0 = .ok (.aload_n 0, 1) := by decide +kernel
theorem dd53_1 : decode cX4_countNode 1 = .ok (.getfield 27, 3) := by decide +kernel
theorem dd53_4 : decode cX4_countNode 4 = .ok (.getfield 270, 3) := by decide +kernel
theorem dd53_7 : decode cX4_countNode 7 = .ok (.sipush 400, 3) := by decide +kernel
theorem dd53_10 : decode cX4_countNode 10 = .ok (.if_icmp .lt 12, 3) := by decide +kernel
theorem dd53_13 : decode cX4_countNode 13 = .ok (.aload_n 0, 1) := by decide +kernel
theorem dd53_14 : decode cX4_countNode 14 = .ok (.iconst 3, 1) := by decide +kernel
theorem dd53_15 : decode cX4_countNode 15 = .ok (.invokevirtual 73, 3) := by decide +kernel
theorem dd53_18 : decode cX4_countNode 18 = .ok (.pop, 1) := by decide +kernel
theorem dd53_19 : decode cX4_countNode 19 = .ok (.goto 16, 3) := by decide +kernel
theorem dd53_22 : decode cX4_countNode 22 = .ok (.aload_n 0, 1) := by decide +kernel
theorem dd53_23 : decode cX4_countNode 23 = .ok (.getfield 27, 3) := by decide +kernel
theorem dd53_26 : decode cX4_countNode 26 = .ok (.dup, 1) := by decide +kernel
theorem dd53_27 : decode cX4_countNode 27 = .ok (.getfield 270, 3) := by decide +kernel
theorem dd53_30 : decode cX4_countNode 30 = .ok (.iconst 1, 1) := by decide +kernel
theorem dd53_31 : decode cX4_countNode 31 = .ok (.iadd, 1) := by decide +kernel
theorem dd53_32 : decode cX4_countNode 32 = .ok (.putfield 270, 3) := by decide +kernel
theorem dd53_35 : decode cX4_countNode 35 = .ok (.return_, 1) := by decide +kernel
def f53 (n : Nat) (s : zσ) : Option zσ :=
    zrd 6 (s.2.2 1004 5) fun a1 =>
    if (s.1 a1 10) < (400 : Int32) then
    zrd 6 (s.2.2 1004 5) fun a2 =>
    zlet (sI s a2 10 ((s.1 a2 10) + (1 : Int32))) fun u3 =>
    some u3
    else yb1 (f32 n (3 : Int32) s) fun v5 u4 =>
    some u4
set_option maxRecDepth 20000 in
theorem f53_ok {n d : Nat} {s : zσ} {s2 : zσ} (hd : 1 ≤ d) (h : f53 n s = some s2) {w : zσ} {fz : Bool} {L : Nat} {xs : Nat → Int32} : zGo (zX fz L xs) d q_53 (0, [(0, .ref 1004)], [], zmk s w, 0, 0) (none, zmk s2 w, 0, 0) := by
  obtain ⟨d, rfl⟩ : ∃ d0, d = d0 + 1 := ⟨d - 1, by omega⟩
  unfold f53 at h
  refine zGo_s (pc' := 1) (st' := [.ref 1004]) dd53_0 rfl ?_
  obtain ⟨a1, e_a1, c_a1, h⟩ := ordd h
  refine cGR dd53_1 rfl rfl rfl rfl e_a1 ?_
  refine cGI dd53_4 rfl (ck6_s c_a1).1 (ck6_s c_a1).2 rfl ?_
  refine zGo_s (pc' := 10) (st' := [.int (400 : Int32), .int (s.1 a1 10)]) dd53_7 rfl ?_
  rcases oite h with ⟨hc, h⟩ | ⟨hc, h⟩
  · refine zIT dd53_10 rfl (kLtT hc) ?_
    refine zGo_s (pc' := 23) (st' := [.ref 1004]) dd53_22 rfl ?_
    obtain ⟨a2, e_a2, c_a2, h⟩ := ordd h
    refine cGR dd53_23 rfl rfl rfl rfl e_a2 ?_
    refine zGo_s (pc' := 27) (st' := [.ref a2, .ref a2]) dd53_26 rfl ?_
    refine cGI dd53_27 rfl (ck6_s c_a2).1 (ck6_s c_a2).2 rfl ?_
    refine zGo_s (pc' := 31) (st' := [.int (1 : Int32), .int (s.1 a2 10), .ref a2]) dd53_30 rfl ?_
    refine zGo_s (pc' := 32) (st' := [.int ((s.1 a2 10) + (1 : Int32)), .ref a2]) dd53_31 rfl ?_
    obtain ⟨u3, e_u3, h⟩ := olet h
    refine cPI dd53_32 rfl (ck6_s c_a2).1 (ck6_s c_a2).2 rfl rfl rfl e_u3 ?_
    obtain rfl := ore0 h
    exact zGo_ret dd53_35 rfl rfl
  · refine zIF dd53_10 (kLtF hc) ?_
    refine zGo_s (pc' := 14) (st' := [.ref 1004]) dd53_13 rfl ?_
    refine zGo_s (pc' := 15) (st' := [.int (3 : Int32), .ref 1004]) dd53_14 rfl ?_
    obtain ⟨v5, u4, hq, h⟩ := obnd h
    refine zCV1 (As := [.int (3 : Int32)]) (rest := []) (b := 1004) (q' := q_32) dd53_15 rfl rfl (rcv_c rfl rfl (by decide)) rfl rfl rfl (f32_ok (d := d) (by omega)  hq) ?_
    refine zGo_s (pc' := 19) (st' := []) dd53_18 rfl ?_
    refine zGo_s (pc' := 35) (st' := []) dd53_19 rfl ?_
    obtain rfl := ore0 h
    exact zGo_ret dd53_35 rfl rfl
/-! PH$Scanner.peek()I -/
theorem dd56_0 : decode cX5_peek 0 = .ok (.aload_n 0, 1) := by decide +kernel
theorem dd56_1 : decode cX5_peek 1 = .ok (.getfield 23, 3) := by decide +kernel
theorem dd56_4 : decode cX5_peek 4 = .ok (.istore_n 1, 1) := by decide +kernel
theorem dd56_5 : decode cX5_peek 5 = .ok (.iload_n 1, 1) := by decide +kernel
theorem dd56_6 : decode cX5_peek 6 = .ok (.aload_n 0, 1) := by decide +kernel
theorem dd56_7 : decode cX5_peek 7 = .ok (.getfield 19, 3) := by decide +kernel
theorem dd56_10 : decode cX5_peek 10 = .ok (.if_icmp .ge 31, 3) := by decide +kernel
theorem dd56_13 : decode cX5_peek 13 = .ok (.aload_n 0, 1) := by decide +kernel
theorem dd56_14 : decode cX5_peek 14 = .ok (.getfield 9, 3) := by decide +kernel
theorem dd56_17 : decode cX5_peek 17 = .ok (.iload_n 1, 1) := by decide +kernel
theorem dd56_18 : decode cX5_peek 18 = .ok (.baload, 1) := by decide +kernel
theorem dd56_19 : decode cX5_peek 19 = .ok (.bipush 32, 2) := by decide +kernel
theorem dd56_21 : decode cX5_peek 21 = .ok (.if_icmp .eq 14, 3) := by decide +kernel
theorem dd56_24 : decode cX5_peek 24 = .ok (.aload_n 0, 1) := by decide +kernel
theorem dd56_25 : decode cX5_peek 25 = .ok (.getfield 9, 3) := by decide +kernel
theorem dd56_28 : decode cX5_peek 28 = .ok (.iload_n 1, 1) := by decide +kernel
theorem dd56_29 : decode cX5_peek 29 = .ok (.baload, 1) := by decide +kernel
theorem dd56_30 : decode cX5_peek 30 = .ok (.bipush 10, 2) := by decide +kernel
theorem dd56_32 : decode cX5_peek 32 = .ok (.if_icmp .ne 9, 3) := by decide +kernel
theorem dd56_35 : decode cX5_peek 35 = .ok (.iinc 1 1, 3) := by decide +kernel
theorem dd56_38 : decode cX5_peek 38 = .ok (.goto (-33), 3) := by decide +kernel
theorem dd56_41 : decode cX5_peek 41 = .ok (.iload_n 1, 1) := by decide +kernel
theorem dd56_42 : decode cX5_peek 42 = .ok (.aload_n 0, 1) := by decide +kernel
theorem dd56_43 : decode cX5_peek 43 = .ok (.getfield 19, 3) := by decide +kernel
theorem dd56_46 : decode cX5_peek 46 = .ok (.if_icmp .ge 12, 3) := by decide +kernel
theorem dd56_49 : decode cX5_peek 49 = .ok (.aload_n 0, 1) := by decide +kernel
theorem dd56_50 : decode cX5_peek 50 = .ok (.getfield 9, 3) := by decide +kernel
theorem dd56_53 : decode cX5_peek 53 = .ok (.iload_n 1, 1) := by decide +kernel
theorem dd56_54 : decode cX5_peek 54 = .ok (.baload, 1) := by decide +kernel
theorem dd56_55 : decode cX5_peek 55 = .ok (.goto 4, 3) := by decide +kernel
theorem dd56_58 : decode cX5_peek 58 = .ok (.iconst 0, 1) := by decide +kernel
theorem dd56_59 : decode cX5_peek 59 = .ok (.ireturn, 1) := by decide +kernel
def f56_41 (n : Nat) (x1 : Int32) (s : zσ) : Option (Int32 × zσ) :=
    if x1 < (s.1 1001 2) then
    if zin? x1 4000 = true then
    some ((s.1 1002 (nx x1)), s)
    else none
    else some ((0 : Int32), s)
set_option maxRecDepth 20000 in
theorem f56_41_ok {n d : Nat} {x1 : Int32} {s : zσ} {v : Int32} {s2 : zσ} (hd : 0 ≤ d) (h : f56_41 n x1 s = some (v, s2)) {w : zσ} {fz : Bool} {L : Nat} {xs : Nat → Int32} : zGo (zX fz L xs) d q_56 (41, [(0, .ref 1001), (1, .int x1)], [], zmk s w, 0, 0) (some (.int v), zmk s2 w, 0, 0) := by
  unfold f56_41 at h
  refine zGo_s (pc' := 42) (st' := [.int x1]) dd56_41 rfl ?_
  refine zGo_s (pc' := 43) (st' := [.ref 1001, .int x1]) dd56_42 rfl ?_
  refine cGI dd56_43 rfl rfl rfl rfl ?_
  rcases oite h with ⟨hc, h⟩ | ⟨hc, h⟩
  · refine zIF dd56_46 (kGeF hc) ?_
    refine zGo_s (pc' := 50) (st' := [.ref 1001]) dd56_49 rfl ?_
    refine cGF (e := 1002) dd56_50 rfl rfl rfl rfl rfl ?_
    refine zGo_s (pc' := 54) (st' := [.int x1, .ref 1002]) dd56_53 rfl ?_
    obtain ⟨hi, h⟩ := ochk h
    refine cBA dd56_54 rfl rfl rfl hi ?_
    refine zGo_s (pc' := 59) (st' := [.int (s.1 1002 (nx x1))]) dd56_55 rfl ?_
    obtain ⟨rfl, rfl⟩ := oret h
    exact zGo_ret dd56_59 rfl rfl
  · refine zIT dd56_46 rfl (kGeT hc) ?_
    refine zGo_s (pc' := 59) (st' := [.int (0 : Int32)]) dd56_58 rfl ?_
    obtain ⟨rfl, rfl⟩ := oret h
    exact zGo_ret dd56_59 rfl rfl
def f56_35 (n : Nat) (r5 : Int32 → zσ → Option (Int32 × zσ)) (x1 : Int32) (s : zσ) : Option (Int32 × zσ) :=
    r5 (x1 + (1 : Int32)) s
set_option maxRecDepth 20000 in
theorem f56_35_ok {n d : Nat} {r5 : Int32 → zσ → Option (Int32 × zσ)} {x1 : Int32} {s : zσ} {v : Int32} {s2 : zσ} (hd : 0 ≤ d) (hr5 : ∀ (x1 : Int32) (s : zσ) (v : Int32) (s2 : zσ), r5 x1 s = some (v, s2) → ∀ {w : zσ} {fz : Bool} {L : Nat} {xs : Nat → Int32}, zGo (zX fz L xs) d q_56 (5, [(0, .ref 1001), (1, .int x1)], [], zmk s w, 0, 0) (some (.int v), zmk s2 w, 0, 0)) (h : f56_35 n r5 x1 s = some (v, s2)) {w : zσ} {fz : Bool} {L : Nat} {xs : Nat → Int32} : zGo (zX fz L xs) d q_56 (35, [(0, .ref 1001), (1, .int x1)], [], zmk s w, 0, 0) (some (.int v), zmk s2 w, 0, 0) := by
  unfold f56_35 at h
  refine zGo_s (pc' := 38) (st' := []) (lv' := [(1, .int (x1 + (1 : Int32))), (0, .ref 1001)]) dd56_35 rfl ?_
  refine zGo_s (pc' := 5) (st' := []) dd56_38 rfl ?_
  exact zGo_lv (lv := [(0, .ref 1001), (1, .int (x1 + (1 : Int32)))]) ⟨by simp, by simp, by simp⟩ (hr5 _ _ _ _ h)
def f56_5 (n : Nat) : Nat → Int32 → zσ → Option (Int32 × zσ)
  | 0, _, _ => none
  | j + 1, x1, s =>
    if x1 < (s.1 1001 2) then
    if zin? x1 4000 = true then
    if (s.1 1002 (nx x1)) = (32 : Int32) then
    f56_35 n (f56_5 n j) x1 s
    else if zin? x1 4000 = true then
    if (s.1 1002 (nx x1)) = (10 : Int32) then
    f56_35 n (f56_5 n j) x1 s
    else f56_41 n x1 s
    else none
    else none
    else f56_41 n x1 s
set_option maxRecDepth 20000 in
theorem f56_5_ok {n d : Nat} (hd : 0 ≤ d) : ∀ (j : Nat) (x1 : Int32) (s : zσ) (v : Int32) (s2 : zσ), f56_5 n j x1 s = some (v, s2) → ∀ {w : zσ} {fz : Bool} {L : Nat} {xs : Nat → Int32}, zGo (zX fz L xs) d q_56 (5, [(0, .ref 1001), (1, .int x1)], [], zmk s w, 0, 0) (some (.int v), zmk s2 w, 0, 0) := by
  intro j
  induction j with
  | zero => intro x1 s v s2 h; cases h
  | succ j ih =>
    intro x1 s v s2 h w fz L xs
    rw [f56_5] at h
    refine zGo_s (pc' := 6) (st' := [.int x1]) dd56_5 rfl ?_
    refine zGo_s (pc' := 7) (st' := [.ref 1001, .int x1]) dd56_6 rfl ?_
    refine cGI dd56_7 rfl rfl rfl rfl ?_
    rcases oite h with ⟨hc, h⟩ | ⟨hc, h⟩
    · refine zIF dd56_10 (kGeF hc) ?_
      refine zGo_s (pc' := 14) (st' := [.ref 1001]) dd56_13 rfl ?_
      refine cGF (e := 1002) dd56_14 rfl rfl rfl rfl rfl ?_
      refine zGo_s (pc' := 18) (st' := [.int x1, .ref 1002]) dd56_17 rfl ?_
      obtain ⟨hi, h⟩ := ochk h
      refine cBA dd56_18 rfl rfl rfl hi ?_
      refine zGo_s (pc' := 21) (st' := [.int (32 : Int32), .int (s.1 1002 (nx x1))]) dd56_19 rfl ?_
      rcases oite h with ⟨hc, h⟩ | ⟨hc, h⟩
      · refine zIT dd56_21 rfl (kEqT hc) ?_
        exact f56_35_ok hd ih h
      · refine zIF dd56_21 (kEqF hc) ?_
        refine zGo_s (pc' := 25) (st' := [.ref 1001]) dd56_24 rfl ?_
        refine cGF (e := 1002) dd56_25 rfl rfl rfl rfl rfl ?_
        refine zGo_s (pc' := 29) (st' := [.int x1, .ref 1002]) dd56_28 rfl ?_
        obtain ⟨hi, h⟩ := ochk h
        refine cBA dd56_29 rfl rfl rfl hi ?_
        refine zGo_s (pc' := 32) (st' := [.int (10 : Int32), .int (s.1 1002 (nx x1))]) dd56_30 rfl ?_
        rcases oite h with ⟨hc, h⟩ | ⟨hc, h⟩
        · refine zIF dd56_32 (kNeF hc) ?_
          exact f56_35_ok hd ih h
        · refine zIT dd56_32 rfl (kNeT hc) ?_
          exact f56_41_ok hd h
    · refine zIT dd56_10 rfl (kGeT hc) ?_
      exact f56_41_ok hd h
def f56 (n : Nat) (s : zσ) : Option (Int32 × zσ) :=
    zlet ((s.1 1001 3)) fun v1 =>
    f56_5 n n v1 s
set_option maxRecDepth 20000 in
theorem f56_ok {n d : Nat} {s : zσ} {v : Int32} {s2 : zσ} (hd : 0 ≤ d) (h : f56 n s = some (v, s2)) {w : zσ} {fz : Bool} {L : Nat} {xs : Nat → Int32} : zGo (zX fz L xs) d q_56 (0, [(0, .ref 1001)], [], zmk s w, 0, 0) (some (.int v), zmk s2 w, 0, 0) := by
  unfold f56 at h
  refine zGo_s (pc' := 1) (st' := [.ref 1001]) dd56_0 rfl ?_
  refine cGI dd56_1 rfl rfl rfl rfl ?_
  obtain ⟨v1, e_v1, h⟩ := olet h
  refine zGo_is1 e_v1 dd56_4 (x' := (5, [(1, .int v1), (0, .ref 1001)], [], _, _, _)) rfl ?_
  exact zGo_lv (lv := [(0, .ref 1001), (1, .int v1)]) ⟨by simp, by simp, by simp⟩ (f56_5_ok hd _ _ _ _ _ h)
/-! PH$Reader.meaning(I)I -/
theorem dd57_0 : decode cX4_meaning 0 = .ok (.aload_n 0, 1) := by decide +kernel
theorem dd57_1 : decode cX4_meaning 1 = .ok (.getfield 54, 3) := by decide +kernel
theorem dd57_4 : decode cX4_meaning 4 = .ok (.getfield 68, 3) := by decide +kernel
theorem dd57_7 : decode cX4_meaning 7 = .ok (.iconst 1, 1) := by decide +kernel
theorem dd57_8 : decode cX4_meaning 8 = .ok (.if_icmp .eq 9, 3) := by decide +kernel
theorem dd57_11 : decode cX4_meaning 11 = .ok (.aload_n 0, 1) := by decide +kernel
theorem dd57_12 : decode cX4_meaning 12 = .ok (.iconst 2, 1) := by decide +kernel
theorem dd57_13 : decode cX4_meaning 13 = .ok (.invokevirtual 73, 3) := by decide +kernel
theorem dd57_16 : decode cX4_meaning 16 = .ok (.ireturn, 1) := by decide +kernel
theorem dd57_17 : decode cX4_meaning 17 = .ok (.iconst 0, 1) := by decide +kernel
theorem dd57_18 : decode cX4_meaning 18 = .ok (.istore_n 2, 1) := by decide +kernel
theorem dd57_19 : decode cX4_meaning 19 = .ok (.aload_n 0, 1) := by decide +kernel
theorem dd57_20 : decode cX4_meaning 20 = .ok (.getfield 35, 3) := by decide +kernel
theorem dd57_23 : decode cX4_meaning 23 = .ok (.ifCond .eq 77, 3) := by decide +kernel
theorem dd57_26 : decode cX4_meaning 26 = .ok (.aload_n 0, 1) := by decide +kernel
theorem dd57_27 : decode cX4_meaning 27 = .ok (.getfield 23, 3) := by decide +kernel
theorem dd57_30 : decode cX4_meaning 30 = .ok (.iload_n 1, 1) := by decide +kernel
theorem dd57_31 : decode cX4_meaning 31 = .ok (.bipush 9, 2) := by decide +kernel
theorem dd57_33 : decode cX4_meaning 33 = .ok (.if_icmp .ne 7, 3) := by decide +kernel
theorem dd57_36 : decode cX4_meaning 36 = .ok (.iconst 0, 1) := by decide +kernel
theorem dd57_37 : decode cX4_meaning 37 = .ok (.goto 4, 3) := by decide +kernel
theorem dd57_40 : decode cX4_meaning 40 = .ok (.iload_n 1, 1) := by decide +kernel
theorem dd57_41 : decode cX4_meaning 41 = .ok (.aload_n 0, 1) := by decide +kernel
theorem dd57_42 : decode cX4_meaning 42 = .ok (.getfield 54, 3) := by decide +kernel
theorem dd57_45 : decode cX4_meaning 45 = .ok (.getfield 153, 3) := by decide +kernel
theorem dd57_48 : decode cX4_meaning 48 = .ok (.invokevirtual 273, 3) := by decide +kernel
theorem dd57_51 : decode cX4_meaning 51 = .ok (.istore_n 2, 1) := by decide +kernel
theorem dd57_52 : decode cX4_meaning 52 = .ok (.iconst 0, 1) := by decide +kernel
theorem dd57_53 : decode cX4_meaning 53 = .ok (.istore_n 3, 1) := by decide +kernel
theorem dd57_54 : decode cX4_meaning 54 = .ok (.iload_n 3, 1) := by decide +kernel
theorem dd57_55 : decode cX4_meaning 55 = .ok (.aload_n 0, 1) := by decide +kernel
theorem dd57_56 : decode cX4_meaning 56 = .ok (.getfield 19, 3) := by decide +kernel
theorem dd57_59 : decode cX4_meaning 59 = .ok (.if_icmp .ge 41, 3) := by decide +kernel
theorem dd57_62 : decode cX4_meaning 62 = .ok (.aload_n 0, 1) := by decide +kernel
theorem dd57_63 : decode cX4_meaning 63 = .ok (.getfield 15, 3) := by decide +kernel
theorem dd57_66 : decode cX4_meaning 66 = .ok (.iload_n 3, 1) := by decide +kernel
theorem dd57_67 : decode cX4_meaning 67 = .ok (.laload, 1) := by decide +kernel
theorem dd57_68 : decode cX4_meaning 68 = .ok (.aload_n 0, 1) := by decide +kernel
theorem dd57_69 : decode cX4_meaning 69 = .ok (.getfield 54, 3) := by decide +kernel
theorem dd57_72 : decode cX4_meaning 72 = .ok (.getfield 153, 3) := by decide +kernel
theorem dd57_75 : decode cX4_meaning 75 = .ok (.lcmp, 1) := by decide +kernel
theorem dd57_76 : decode cX4_meaning 76 = .ok (.ifCond .ne 18, 3) := by decide +kernel
theorem dd57_79 : decode cX4_meaning 79 = .ok (.iload_n 1, 1) := by decide +kernel
theorem dd57_80 : decode cX4_meaning 80 = .ok (.bipush 9, 2) := by decide +kernel
theorem dd57_82 : decode cX4_meaning 82 = .ok (.if_icmp .ne 10, 3) := by decide +kernel
theorem dd57_85 : decode cX4_meaning 85 = .ok (.bipush 8, 2) := by decide +kernel
theorem dd57_87 : decode cX4_meaning 87 = .ok (.iload_n 3, 1) := by decide +kernel
theorem dd57_88 : decode cX4_meaning 88 = .ok (.iadd, 1) := by decide +kernel
theorem dd57_89 : decode cX4_meaning 89 = .ok (.goto 4, 3) := by decide +kernel
theorem dd57_92 : decode cX4_meaning 92 = .ok (.iconst (-1), 1) := by decide +kernel
theorem dd57_93 : decode cX4_meaning 93 = .ok (.istore_n 2, 1) := by decide +kernel
theorem dd57_94 : decode cX4_meaning 94 = .ok (.iinc 3 1, 3) := by decide +kernel
theorem dd57_97 : decode cX4_meaning 97 = .ok (.goto (-43), 3) := by decide +kernel
theorem dd57_100 : decode cX4_meaning 100 = .ok (.iload_n 2, 1) := by decide +kernel
theorem dd57_101 : decode cX4_meaning 101 = .ok (.iconst (-1), 1) := by decide +kernel
theorem dd57_102 : decode cX4_meaning 102 = .ok (.if_icmp .ne 10, 3) := by decide +kernel
theorem dd57_105 : decode cX4_meaning 105 = .ok (.aload_n 0, 1) := by decide +kernel
theorem dd57_106 : decode cX4_meaning 106 = .ok (.bipush 6, 2) := by decide +kernel
theorem dd57_108 : decode cX4_meaning 108 = .ok (.invokevirtual 73, 3) := by decide +kernel
theorem dd57_111 : decode cX4_meaning 111 = .ok (.ireturn, 1) := by decide +kernel
theorem dd57_112 : decode cX4_meaning 112 = .ok (.aload_n 0, 1) := by decide +kernel
theorem dd57_113 : decode cX4_meaning 113 = .ok (.getfield 54, 3) := by decide +kernel
theorem dd57_116 : decode cX4_meaning 116 = .ok (.invokevirtual 104, 3) := by decide +kernel
theorem dd57_119 : decode cX4_meaning 119 = .ok (.iload_n 2, 1) := by decide +kernel
theorem dd57_120 : decode cX4_meaning 120 = .ok (.ireturn, 1) := by decide +kernel
def f57_100 (n : Nat) (x2 : Int32) (s : zσ) : Option (Int32 × zσ) :=
    if x2 = (-1 : Int32) then
    yb1 (f32 n (6 : Int32) s) fun v3 u2 =>
    some (v3, u2)
    else yb0 (f26 n s) fun u1 =>
    some (x2, u1)
set_option maxRecDepth 20000 in
theorem f57_100_ok {n d : Nat} {x2 : Int32} {s : zσ} {v : Int32} {s2 : zσ} (hd : 8 ≤ d) (h : f57_100 n x2 s = some (v, s2)) {w : zσ} {fz : Bool} {L : Nat} {xs : Nat → Int32} : zGo (zX fz L xs) d q_57 (100, [(0, .ref 1004), (2, .int x2)], [], zmk s w, 0, 0) (some (.int v), zmk s2 w, 0, 0) := by
  obtain ⟨d, rfl⟩ : ∃ d0, d = d0 + 1 := ⟨d - 1, by omega⟩
  unfold f57_100 at h
  refine zGo_s (pc' := 101) (st' := [.int x2]) dd57_100 rfl ?_
  refine zGo_s (pc' := 102) (st' := [.int (-1 : Int32), .int x2]) dd57_101 rfl ?_
  rcases oite h with ⟨hc, h⟩ | ⟨hc, h⟩
  · refine zIF dd57_102 (kNeF hc) ?_
    refine zGo_s (pc' := 106) (st' := [.ref 1004]) dd57_105 rfl ?_
    refine zGo_s (pc' := 108) (st' := [.int (6 : Int32), .ref 1004]) dd57_106 rfl ?_
    obtain ⟨v3, u2, hq, h⟩ := obnd h
    refine zCV1 (As := [.int (6 : Int32)]) (rest := []) (b := 1004) (q' := q_32) dd57_108 rfl rfl (rcv_c rfl rfl (by decide)) rfl rfl rfl (f32_ok (d := d) (by omega)  hq) ?_
    obtain ⟨rfl, rfl⟩ := oret h
    exact zGo_ret dd57_111 rfl rfl
  · refine zIT dd57_102 rfl (kNeT hc) ?_
    refine zGo_s (pc' := 113) (st' := [.ref 1004]) dd57_112 rfl ?_
    refine cGF (e := 1001) dd57_113 rfl rfl rfl rfl rfl ?_
    obtain ⟨u1, hq, h⟩ := obn0 h
    refine zCV0 (As := []) (rest := []) (b := 1001) (q' := q_26) dd57_116 rfl rfl (rcv_c rfl rfl (by decide)) rfl rfl rfl (f26_ok (d := d) (by omega)  hq) ?_
    refine zGo_s (pc' := 120) (st' := [.int x2]) dd57_119 rfl ?_
    obtain ⟨rfl, rfl⟩ := oret h
    exact zGo_ret dd57_120 rfl rfl
def f57_94 (n : Nat) (r54 : Int32 → Int32 → Int32 → zσ → Option (Int32 × zσ)) (x1 : Int32) (x2 : Int32) (x3 : Int32) (s : zσ) : Option (Int32 × zσ) :=
    r54 x1 x2 (x3 + (1 : Int32)) s
set_option maxRecDepth 20000 in
theorem f57_94_ok {n d : Nat} {r54 : Int32 → Int32 → Int32 → zσ → Option (Int32 × zσ)} {x1 : Int32} {x2 : Int32} {x3 : Int32} {s : zσ} {v : Int32} {s2 : zσ} (hd : 8 ≤ d) (hr54 : ∀ (x1 : Int32) (x2 : Int32) (x3 : Int32) (s : zσ) (v : Int32) (s2 : zσ), r54 x1 x2 x3 s = some (v, s2) → ∀ {w : zσ} {fz : Bool} {L : Nat} {xs : Nat → Int32}, zGo (zX fz L xs) d q_57 (54, [(0, .ref 1004), (1, .int x1), (2, .int x2), (3, .int x3)], [], zmk s w, 0, 0) (some (.int v), zmk s2 w, 0, 0)) (h : f57_94 n r54 x1 x2 x3 s = some (v, s2)) {w : zσ} {fz : Bool} {L : Nat} {xs : Nat → Int32} : zGo (zX fz L xs) d q_57 (94, [(0, .ref 1004), (1, .int x1), (2, .int x2), (3, .int x3)], [], zmk s w, 0, 0) (some (.int v), zmk s2 w, 0, 0) := by
  obtain ⟨d, rfl⟩ : ∃ d0, d = d0 + 1 := ⟨d - 1, by omega⟩
  unfold f57_94 at h
  refine zGo_s (pc' := 97) (st' := []) (lv' := [(3, .int (x3 + (1 : Int32))), (0, .ref 1004), (1, .int x1), (2, .int x2)]) dd57_94 rfl ?_
  refine zGo_s (pc' := 54) (st' := []) dd57_97 rfl ?_
  exact zGo_lv (lv := [(0, .ref 1004), (1, .int x1), (2, .int x2), (3, .int (x3 + (1 : Int32)))]) ⟨by simp, by simp, by simp⟩ (hr54 _ _ _ _ _ _ h)
def f57_93 (n : Nat) (r54 : Int32 → Int32 → Int32 → zσ → Option (Int32 × zσ)) (x1 : Int32) (x3 : Int32) (y0 : Int32) (s : zσ) : Option (Int32 × zσ) :=
    f57_94 n r54 x1 y0 x3 s
set_option maxRecDepth 20000 in
theorem f57_93_ok {n d : Nat} {r54 : Int32 → Int32 → Int32 → zσ → Option (Int32 × zσ)} {x1 : Int32} {x3 : Int32} {y0 : Int32} {s : zσ} {v : Int32} {s2 : zσ} (hd : 8 ≤ d) (hr54 : ∀ (x1 : Int32) (x2 : Int32) (x3 : Int32) (s : zσ) (v : Int32) (s2 : zσ), r54 x1 x2 x3 s = some (v, s2) → ∀ {w : zσ} {fz : Bool} {L : Nat} {xs : Nat → Int32}, zGo (zX fz L xs) d q_57 (54, [(0, .ref 1004), (1, .int x1), (2, .int x2), (3, .int x3)], [], zmk s w, 0, 0) (some (.int v), zmk s2 w, 0, 0)) (h : f57_93 n r54 x1 x3 y0 s = some (v, s2)) {w : zσ} {fz : Bool} {L : Nat} {xs : Nat → Int32} : zGo (zX fz L xs) d q_57 (93, [(0, .ref 1004), (1, .int x1), (3, .int x3)], [.int y0], zmk s w, 0, 0) (some (.int v), zmk s2 w, 0, 0) := by
  obtain ⟨d, rfl⟩ : ∃ d0, d = d0 + 1 := ⟨d - 1, by omega⟩
  unfold f57_93 at h
  refine zGo_s (pc' := 94) (st' := []) (lv' := [(2, .int y0), (0, .ref 1004), (1, .int x1), (3, .int x3)]) dd57_93 rfl ?_
  exact zGo_lv (lv := [(0, .ref 1004), (1, .int x1), (2, .int y0), (3, .int x3)]) ⟨by simp, by simp, by simp⟩ (f57_94_ok hd hr54 h)
def f57_54 (n : Nat) : Nat → Int32 → Int32 → Int32 → zσ → Option (Int32 × zσ)
  | 0, _, _, _, _ => none
  | j + 1, x1, x2, x3, s =>
    if x3 < (s.1 1004 3) then
    if zin? x3 3 = true then
    if (s.2.1 1006 (nx x3)) = (s.2.1 1001 7) then
    if x1 = (9 : Int32) then
    f57_93 n (f57_54 n j) x1 x3 ((8 : Int32) + x3) s
    else f57_93 n (f57_54 n j) x1 x3 (-1 : Int32) s
    else f57_94 n (f57_54 n j) x1 x2 x3 s
    else none
    else f57_100 n x2 s
set_option maxRecDepth 20000 in
theorem f57_54_ok {n d : Nat} (hd : 8 ≤ d) : ∀ (j : Nat) (x1 : Int32) (x2 : Int32) (x3 : Int32) (s : zσ) (v : Int32) (s2 : zσ), f57_54 n j x1 x2 x3 s = some (v, s2) → ∀ {w : zσ} {fz : Bool} {L : Nat} {xs : Nat → Int32}, zGo (zX fz L xs) d q_57 (54, [(0, .ref 1004), (1, .int x1), (2, .int x2), (3, .int x3)], [], zmk s w, 0, 0) (some (.int v), zmk s2 w, 0, 0) := by
  obtain ⟨d, rfl⟩ : ∃ d0, d = d0 + 1 := ⟨d - 1, by omega⟩
  intro j
  induction j with
  | zero => intro x1 x2 x3 s v s2 h; cases h
  | succ j ih =>
    intro x1 x2 x3 s v s2 h w fz L xs
    rw [f57_54] at h
    refine zGo_s (pc' := 55) (st' := [.int x3]) dd57_54 rfl ?_
    refine zGo_s (pc' := 56) (st' := [.ref 1004, .int x3]) dd57_55 rfl ?_
    refine cGI dd57_56 rfl rfl rfl rfl ?_
    rcases oite h with ⟨hc, h⟩ | ⟨hc, h⟩
    · refine zIF dd57_59 (kGeF hc) ?_
      refine zGo_s (pc' := 63) (st' := [.ref 1004]) dd57_62 rfl ?_
      refine cGF (e := 1006) dd57_63 rfl rfl rfl rfl rfl ?_
      refine zGo_s (pc' := 67) (st' := [.int x3, .ref 1006]) dd57_66 rfl ?_
      obtain ⟨hi, h⟩ := ochk h
      refine cLA dd57_67 rfl rfl hi ?_
      refine zGo_s (pc' := 69) (st' := [.ref 1004, .long (s.2.1 1006 (nx x3))]) dd57_68 rfl ?_
      refine cGF (e := 1001) dd57_69 rfl rfl rfl rfl rfl ?_
      refine cGJ dd57_72 rfl rfl rfl rfl ?_
      refine zGo_s (pc' := 76) (st' := [.int (lg_cmp (s.2.1 1006 (nx x3)) (s.2.1 1001 7))]) dd57_75 rfl ?_
      rcases oite h with ⟨hc, h⟩ | ⟨hc, h⟩
      · refine zUF dd57_76 (kcNeF hc) ?_
        refine zGo_s (pc' := 80) (st' := [.int x1]) dd57_79 rfl ?_
        refine zGo_s (pc' := 82) (st' := [.int (9 : Int32), .int x1]) dd57_80 rfl ?_
        rcases oite h with ⟨hc, h⟩ | ⟨hc, h⟩
        · refine zIF dd57_82 (kNeF hc) ?_
          refine zGo_s (pc' := 87) (st' := [.int (8 : Int32)]) dd57_85 rfl ?_
          refine zGo_s (pc' := 88) (st' := [.int x3, .int (8 : Int32)]) dd57_87 rfl ?_
          refine zGo_s (pc' := 89) (st' := [.int ((8 : Int32) + x3)]) dd57_88 rfl ?_
          refine zGo_s (pc' := 93) (st' := [.int ((8 : Int32) + x3)]) dd57_89 rfl ?_
          exact zGo_lv (lv := [(0, .ref 1004), (1, .int x1), (3, .int x3)]) ⟨by simp, by simp, by simp⟩ (f57_93_ok hd ih h)
        · refine zIT dd57_82 rfl (kNeT hc) ?_
          refine zGo_s (pc' := 93) (st' := [.int (-1 : Int32)]) dd57_92 rfl ?_
          exact zGo_lv (lv := [(0, .ref 1004), (1, .int x1), (3, .int x3)]) ⟨by simp, by simp, by simp⟩ (f57_93_ok hd ih h)
      · refine zUT dd57_76 rfl (kcNeT hc) ?_
        exact f57_94_ok hd ih h
    · refine zIT dd57_59 rfl (kGeT hc) ?_
      exact zGo_lv (lv := [(0, .ref 1004), (2, .int x2)]) ⟨by simp, by simp, by simp⟩ (f57_100_ok hd h)
def f57_41 (n : Nat) (x1 : Int32) (y0 : Int32) (y1 : Nat) (s : zσ) : Option (Int32 × zσ) :=
    yb1 (f36 n y1 y0 (s.2.1 1001 7) s) fun v2 u1 =>
    f57_54 n n x1 v2 (0 : Int32) u1
set_option maxRecDepth 20000 in
theorem f57_41_ok {n d : Nat} {x1 : Int32} {y0 : Int32} {y1 : Nat} {s : zσ} {v : Int32} {s2 : zσ} (hd : 8 ≤ d) (hy1 : zck 9 y1 = true) (h : f57_41 n x1 y0 y1 s = some (v, s2)) {w : zσ} {fz : Bool} {L : Nat} {xs : Nat → Int32} : zGo (zX fz L xs) d q_57 (41, [(0, .ref 1004), (1, .int x1)], [.int y0, .ref y1], zmk s w, 0, 0) (some (.int v), zmk s2 w, 0, 0) := by
  obtain ⟨d, rfl⟩ : ∃ d0, d = d0 + 1 := ⟨d - 1, by omega⟩
  unfold f57_41 at h
  refine zGo_s (pc' := 42) (st' := [.ref 1004, .int y0, .ref y1]) dd57_41 rfl ?_
  refine cGF (e := 1001) dd57_42 rfl rfl rfl rfl rfl ?_
  refine cGJ dd57_45 rfl rfl rfl rfl ?_
  obtain ⟨v2, u1, hq, h⟩ := obnd h
  refine zCV1 (As := [.int y0, .long (s.2.1 1001 7)]) (rest := []) (b := y1) (q' := q_36) dd57_48 rfl rfl (rcv_c (ck9_s hy1).1 (ck9_s hy1).2 (by decide)) rfl rfl rfl (f36_ok (d := d) (by omega) hy1 hq) ?_
  refine zGo_s (pc' := 52) (st' := []) (lv' := [(2, .int v2), (0, .ref 1004), (1, .int x1)]) dd57_51 rfl ?_
  refine zGo_s (pc' := 53) (st' := [.int (0 : Int32)]) dd57_52 rfl ?_
  refine zGo_s (pc' := 54) (st' := []) (lv' := [(3, .int (0 : Int32)), (2, .int v2), (0, .ref 1004), (1, .int x1)]) dd57_53 rfl ?_
  exact zGo_lv (lv := [(0, .ref 1004), (1, .int x1), (2, .int v2), (3, .int (0 : Int32))]) ⟨by simp, by simp, by simp⟩ (f57_54_ok hd _ _ _ _ _ _ _ h)
def f57 (n : Nat) (x1 : Int32) (s : zσ) : Option (Int32 × zσ) :=
    if (s.1 1001 4) = (1 : Int32) then
    if (s.1 1004 7) = (0 : Int32) then
    f57_100 n (0 : Int32) s
    else zrd 9 (s.2.2 1004 4) fun a1 =>
    if x1 = (9 : Int32) then
    f57_41 n x1 (0 : Int32) a1 s
    else f57_41 n x1 x1 a1 s
    else yb1 (f32 n (2 : Int32) s) fun v3 u2 =>
    some (v3, u2)
set_option maxRecDepth 20000 in
theorem f57_ok {n d : Nat} {x1 : Int32} {s : zσ} {v : Int32} {s2 : zσ} (hd : 8 ≤ d) (h : f57 n x1 s = some (v, s2)) {w : zσ} {fz : Bool} {L : Nat} {xs : Nat → Int32} : zGo (zX fz L xs) d q_57 (0, [(0, .ref 1004), (1, .int x1)], [], zmk s w, 0, 0) (some (.int v), zmk s2 w, 0, 0) := by
  obtain ⟨d, rfl⟩ : ∃ d0, d = d0 + 1 := ⟨d - 1, by omega⟩
  unfold f57 at h
  refine zGo_s (pc' := 1) (st' := [.ref 1004]) dd57_0 rfl ?_
  refine cGF (e := 1001) dd57_1 rfl rfl rfl rfl rfl ?_
  refine cGI dd57_4 rfl rfl rfl rfl ?_
  refine zGo_s (pc' := 8) (st' := [.int (1 : Int32), .int (s.1 1001 4)]) dd57_7 rfl ?_
  rcases oite h with ⟨hc, h⟩ | ⟨hc, h⟩
  · refine zIT dd57_8 rfl (kEqT hc) ?_
    refine zGo_s (pc' := 18) (st' := [.int (0 : Int32)]) dd57_17 rfl ?_
    refine zGo_s (pc' := 19) (st' := []) (lv' := [(2, .int (0 : Int32)), (0, .ref 1004), (1, .int x1)]) dd57_18 rfl ?_
    refine zGo_s (pc' := 20) (st' := [.ref 1004]) dd57_19 rfl ?_
    refine cGI dd57_20 rfl rfl rfl rfl ?_
    rcases oite h with ⟨hc, h⟩ | ⟨hc, h⟩
    · refine zUT dd57_23 rfl (kEqT hc) ?_
      exact zGo_lv (lv := [(0, .ref 1004), (2, .int (0 : Int32))]) ⟨by simp, by simp, by simp⟩ (f57_100_ok hd h)
    · refine zUF dd57_23 (kEqF hc) ?_
      refine zGo_s (pc' := 27) (st' := [.ref 1004]) dd57_26 rfl ?_
      obtain ⟨a1, e_a1, c_a1, h⟩ := ordd h
      refine cGR dd57_27 rfl rfl rfl rfl e_a1 ?_
      refine zGo_s (pc' := 31) (st' := [.int x1, .ref a1]) dd57_30 rfl ?_
      refine zGo_s (pc' := 33) (st' := [.int (9 : Int32), .int x1, .ref a1]) dd57_31 rfl ?_
      rcases oite h with ⟨hc, h⟩ | ⟨hc, h⟩
      · refine zIF dd57_33 (kNeF hc) ?_
        refine zGo_s (pc' := 37) (st' := [.int (0 : Int32), .ref a1]) dd57_36 rfl ?_
        refine zGo_s (pc' := 41) (st' := [.int (0 : Int32), .ref a1]) dd57_37 rfl ?_
        exact zGo_lv (lv := [(0, .ref 1004), (1, .int x1)]) ⟨by simp, by simp, by simp⟩ (f57_41_ok hd c_a1 h)
      · refine zIT dd57_33 rfl (kNeT hc) ?_
        refine zGo_s (pc' := 41) (st' := [.int x1, .ref a1]) dd57_40 rfl ?_
        exact zGo_lv (lv := [(0, .ref 1004), (1, .int x1)]) ⟨by simp, by simp, by simp⟩ (f57_41_ok hd c_a1 h)
  · refine zIF dd57_8 (kEqF hc) ?_
    refine zGo_s (pc' := 12) (st' := [.ref 1004]) dd57_11 rfl ?_
    refine zGo_s (pc' := 13) (st' := [.int (2 : Int32), .ref 1004]) dd57_12 rfl ?_
    obtain ⟨v3, u2, hq, h⟩ := obnd h
    refine zCV1 (As := [.int (2 : Int32)]) (rest := []) (b := 1004) (q' := q_32) dd57_13 rfl rfl (rcv_c rfl rfl (by decide)) rfl rfl rfl (f32_ok (d := d) (by omega)  hq) ?_
    obtain ⟨rfl, rfl⟩ := oret h
    exact zGo_ret dd57_16 rfl rfl
/-! PH$Reader.named()V -/
theorem dd55_0 : decode cX4_named 0 = .ok (.aload_n 0, 1) := by decide +kernel
theorem dd55_1 : decode cX4_named 1 = .ok (.invokevirtual 264, 3) := by decide +kernel
theorem dd55_4 : decode cX4_named 4 = .ok (.aload_n 0, 1) := by decide +kernel
theorem dd55_5 : decode cX4_named 5 = .ok (.getfield 54, 3) := by decide +kernel
theorem dd55_8 : decode cX4_named 8 = .ok (.invokevirtual 232, 3) := by decide +kernel
theorem dd55_11 : decode cX4_named 11 = .ok (.bipush 91, 2) := by decide +kernel
theorem dd55_13 : decode cX4_named 13 = .ok (.if_icmp .eq 18, 3) := by decide +kernel
theorem dd55_16 : decode cX4_named 16 = .ok (.aload_n 0, 1) := by decide +kernel
theorem dd55_17 : decode cX4_named 17 = .ok (.getfield 27, 3) := by decide +kernel
theorem dd55_20 : decode cX4_named 20 = .ok (.iconst 1, 1) := by decide +kernel
theorem dd55_21 : decode cX4_named 21 = .ok (.aload_n 0, 1) := by decide +kernel
theorem dd55_22 : decode cX4_named 22 = .ok (.bipush 9, 2) := by decide +kernel
theorem dd55_24 : decode cX4_named 24 = .ok (.invokevirtual 236, 3) := by decide +kernel
theorem dd55_27 : decode cX4_named 27 = .ok (.invokevirtual 254, 3) := by decide +kernel
theorem dd55_30 : decode cX4_named 30 = .ok (.return_, 1) := by decide +kernel
theorem dd55_31 : decode cX4_named 31 = .ok (.aload_n 0, 1) := by decide +kernel
theorem dd55_32 : decode cX4_named 32 = .ok (.iconst 1, 1) := by decide +kernel
theorem dd55_33 : decode cX4_named 33 = .ok (.invokevirtual 236, 3) := by decide +kernel
theorem dd55_36 : decode cX4_named 36 = .ok (.istore_n 1, 1) := by decide +kernel
theorem dd55_37 : decode cX4_named 37 = .ok (.aload_n 0, 1) := by decide +kernel
theorem dd55_38 : decode cX4_named 38 = .ok (.bipush 91, 2) := by decide +kernel
theorem dd55_40 : decode cX4_named 40 = .ok (.invokevirtual 168, 3) := by decide +kernel
theorem dd55_43 : decode cX4_named 43 = .ok (.ifCond .eq 33, 3) := by decide +kernel
theorem dd55_46 : decode cX4_named 46 = .ok (.aload_n 0, 1) := by decide +kernel
theorem dd55_47 : decode cX4_named 47 = .ok (.invokevirtual 223, 3) := by decide +kernel
theorem dd55_50 : decode cX4_named 50 = .ok (.aload_n 0, 1) := by decide +kernel
theorem dd55_51 : decode cX4_named 51 = .ok (.bipush 93, 2) := by decide +kernel
theorem dd55_53 : decode cX4_named 53 = .ok (.invokevirtual 125, 3) := by decide +kernel
theorem dd55_56 : decode cX4_named 56 = .ok (.aload_n 0, 1) := by decide +kernel
theorem dd55_57 : decode cX4_named 57 = .ok (.dup, 1) := by decide +kernel
theorem dd55_58 : decode cX4_named 58 = .ok (.getfield 42, 3) := by decide +kernel
theorem dd55_61 : decode cX4_named 61 = .ok (.iconst 1, 1) := by decide +kernel
theorem dd55_62 : decode cX4_named 62 = .ok (.isub, 1) := by decide +kernel
theorem dd55_63 : decode cX4_named 63 = .ok (.putfield 42, 3) := by decide +kernel
theorem dd55_66 : decode cX4_named 66 = .ok (.aload_n 0, 1) := by decide +kernel
theorem dd55_67 : decode cX4_named 67 = .ok (.getfield 27, 3) := by decide +kernel
theorem dd55_70 : decode cX4_named 70 = .ok (.bipush 91, 2) := by decide +kernel
theorem dd55_72 : decode cX4_named 72 = .ok (.iload_n 1, 1) := by decide +kernel
theorem dd55_73 : decode cX4_named 73 = .ok (.invokevirtual 254, 3) := by decide +kernel
theorem dd55_76 : decode cX4_named 76 = .ok (.return_, 1) := by decide +kernel
def f55 (n : Nat) (g : zσ → Option zσ) (s : zσ) : Option zσ :=
    yb0 (f53 n s) fun u1 =>
    yb1 (f56 n u1) fun v3 u2 =>
    if v3 = (91 : Int32) then
    yb1 (f57 n (1 : Int32) u2) fun v5 u4 =>
    yb1 (f41 n (91 : Int32) u4) fun v7 u6 =>
    if v7 = (0 : Int32) then
    some u6
    else yb0 (f49 n g u6) fun u8 =>
    yb0 (f37 n (93 : Int32) u8) fun u9 =>
    zlet (sI u9 1004 9 ((u9.1 1004 9) - (1 : Int32))) fun u10 =>
    zrd 6 (u10.2.2 1004 5) fun a11 =>
    yb0 (f54 n a11 (91 : Int32) v5 u10) fun u12 =>
    some u12
    else zrd 6 (u2.2.2 1004 5) fun a13 =>
    yb1 (f57 n (9 : Int32) u2) fun v15 u14 =>
    yb0 (f54 n a13 (1 : Int32) v15 u14) fun u16 =>
    some u16
set_option maxRecDepth 20000 in
theorem f55_ok {n d : Nat} {Df : Nat} {g : zσ → Option zσ} {s : zσ} {s2 : zσ} (hd : Df + 4 ≤ d ∧ 8 ≤ Df) (hg : ∀ (s : zσ) (s2 : zσ), g s = some s2 → ∀ {d : Nat}, Df ≤ d → ∀ {w : zσ} {fz : Bool} {L : Nat} {xs : Nat → Int32}, zGo (zX fz L xs) d q_52 (0, [(0, .ref 1004)], [], zmk s w, 0, 0) (none, zmk s2 w, 0, 0)) (h : f55 n g s = some s2) {w : zσ} {fz : Bool} {L : Nat} {xs : Nat → Int32} : zGo (zX fz L xs) d q_55 (0, [(0, .ref 1004)], [], zmk s w, 0, 0) (none, zmk s2 w, 0, 0) := by
  obtain ⟨d, rfl⟩ : ∃ d0, d = d0 + 1 := ⟨d - 1, by omega⟩
  unfold f55 at h
  refine zGo_s (pc' := 1) (st' := [.ref 1004]) dd55_0 rfl ?_
  obtain ⟨u1, hq, h⟩ := obn0 h
  refine zCV0 (As := []) (rest := []) (b := 1004) (q' := q_53) dd55_1 rfl rfl (rcv_c rfl rfl (by decide)) rfl rfl rfl (f53_ok (d := d) (by omega)  hq) ?_
  refine zGo_s (pc' := 5) (st' := [.ref 1004]) dd55_4 rfl ?_
  refine cGF (e := 1001) dd55_5 rfl rfl rfl rfl rfl ?_
  obtain ⟨v3, u2, hq, h⟩ := obnd h
  refine zCV1 (As := []) (rest := []) (b := 1001) (q' := q_56) dd55_8 rfl rfl (rcv_c rfl rfl (by decide)) rfl rfl rfl (f56_ok (d := d) (by omega)  hq) ?_
  refine zGo_s (pc' := 13) (st' := [.int (91 : Int32), .int v3]) dd55_11 rfl ?_
  rcases oite h with ⟨hc, h⟩ | ⟨hc, h⟩
  · refine zIT dd55_13 rfl (kEqT hc) ?_
    refine zGo_s (pc' := 32) (st' := [.ref 1004]) dd55_31 rfl ?_
    refine zGo_s (pc' := 33) (st' := [.int (1 : Int32), .ref 1004]) dd55_32 rfl ?_
    obtain ⟨v5, u4, hq, h⟩ := obnd h
    refine zCV1 (As := [.int (1 : Int32)]) (rest := []) (b := 1004) (q' := q_57) dd55_33 rfl rfl (rcv_c rfl rfl (by decide)) rfl rfl rfl (f57_ok (d := d) (by omega)  hq) ?_
    refine zGo_s (pc' := 37) (st' := []) (lv' := [(1, .int v5), (0, .ref 1004)]) dd55_36 rfl ?_
    refine zGo_s (pc' := 38) (st' := [.ref 1004]) dd55_37 rfl ?_
    refine zGo_s (pc' := 40) (st' := [.int (91 : Int32), .ref 1004]) dd55_38 rfl ?_
    obtain ⟨v7, u6, hq, h⟩ := obnd h
    refine zCV1 (As := [.int (91 : Int32)]) (rest := []) (b := 1004) (q' := q_41) dd55_40 rfl rfl (rcv_c rfl rfl (by decide)) rfl rfl rfl (f41_ok (d := d) (by omega)  hq) ?_
    rcases oite h with ⟨hc, h⟩ | ⟨hc, h⟩
    · refine zUT dd55_43 rfl (kEqT hc) ?_
      obtain rfl := ore0 h
      exact zGo_ret dd55_76 rfl rfl
    · refine zUF dd55_43 (kEqF hc) ?_
      refine zGo_s (pc' := 47) (st' := [.ref 1004]) dd55_46 rfl ?_
      obtain ⟨u8, hq, h⟩ := obn0 h
      refine zCV0 (As := []) (rest := []) (b := 1004) (q' := q_49) dd55_47 rfl rfl (rcv_c rfl rfl (by decide)) rfl rfl rfl (f49_ok (d := d) (by omega) hg  hq) ?_
      refine zGo_s (pc' := 51) (st' := [.ref 1004]) dd55_50 rfl ?_
      refine zGo_s (pc' := 53) (st' := [.int (93 : Int32), .ref 1004]) dd55_51 rfl ?_
      obtain ⟨u9, hq, h⟩ := obn0 h
      refine zCV0 (As := [.int (93 : Int32)]) (rest := []) (b := 1004) (q' := q_37) dd55_53 rfl rfl (rcv_c rfl rfl (by decide)) rfl rfl rfl (f37_ok (d := d) (by omega)  hq) ?_
      refine zGo_s (pc' := 57) (st' := [.ref 1004]) dd55_56 rfl ?_
      refine zGo_s (pc' := 58) (st' := [.ref 1004, .ref 1004]) dd55_57 rfl ?_
      refine cGI dd55_58 rfl rfl rfl rfl ?_
      refine zGo_s (pc' := 62) (st' := [.int (1 : Int32), .int (u9.1 1004 9), .ref 1004]) dd55_61 rfl ?_
      refine zGo_s (pc' := 63) (st' := [.int ((u9.1 1004 9) - (1 : Int32)), .ref 1004]) dd55_62 rfl ?_
      obtain ⟨u10, e_u10, h⟩ := olet h
      refine cPI dd55_63 rfl rfl rfl rfl rfl rfl e_u10 ?_
      refine zGo_s (pc' := 67) (st' := [.ref 1004]) dd55_66 rfl ?_
      obtain ⟨a11, e_a11, c_a11, h⟩ := ordd h
      refine cGR dd55_67 rfl rfl rfl rfl e_a11 ?_
      refine zGo_s (pc' := 72) (st' := [.int (91 : Int32), .ref a11]) dd55_70 rfl ?_
      refine zGo_s (pc' := 73) (st' := [.int v5, .int (91 : Int32), .ref a11]) dd55_72 rfl ?_
      obtain ⟨u12, hq, h⟩ := obn0 h
      refine zCV0 (As := [.int (91 : Int32), .int v5]) (rest := []) (b := a11) (q' := q_54) dd55_73 rfl rfl (rcv_c (ck6_s c_a11).1 (ck6_s c_a11).2 (by decide)) rfl rfl rfl (f54_ok (d := d) (by omega) c_a11 hq) ?_
      obtain rfl := ore0 h
      exact zGo_ret dd55_76 rfl rfl
  · refine zIF dd55_13 (kEqF hc) ?_
    refine zGo_s (pc' := 17) (st' := [.ref 1004]) dd55_16 rfl ?_
    obtain ⟨a13, e_a13, c_a13, h⟩ := ordd h
    refine cGR dd55_17 rfl rfl rfl rfl e_a13 ?_
    refine zGo_s (pc' := 21) (st' := [.int (1 : Int32), .ref a13]) dd55_20 rfl ?_
    refine zGo_s (pc' := 22) (st' := [.ref 1004, .int (1 : Int32), .ref a13]) dd55_21 rfl ?_
    refine zGo_s (pc' := 24) (st' := [.int (9 : Int32), .ref 1004, .int (1 : Int32), .ref a13]) dd55_22 rfl ?_
    obtain ⟨v15, u14, hq, h⟩ := obnd h
    refine zCV1 (As := [.int (9 : Int32)]) (rest := [.int (1 : Int32), .ref a13]) (b := 1004) (q' := q_57) dd55_24 rfl rfl (rcv_c rfl rfl (by decide)) rfl rfl rfl (f57_ok (d := d) (by omega)  hq) ?_
    obtain ⟨u16, hq, h⟩ := obn0 h
    refine zCV0 (As := [.int (1 : Int32), .int v15]) (rest := []) (b := a13) (q' := q_54) dd55_27 rfl rfl (rcv_c (ck6_s c_a13).1 (ck6_s c_a13).2 (by decide)) rfl rfl rfl (f54_ok (d := d) (by omega) c_a13 hq) ?_
    obtain rfl := ore0 h
    exact zGo_ret dd55_30 rfl rfl
/-! PH$Reader.factor()V -/
theorem dd52_0 : decode cX4_factor 0 = .ok (.aload_n 0, 1) := by decide +kernel
theorem dd52_1 : decode cX4_factor 1 = .ok (.getfield 54, 3) := by decide +kernel
theorem dd52_4 : decode cX4_factor 4 = .ok (.getfield 68, 3) := by decide +kernel
theorem dd52_7 : decode cX4_factor 7 = .ok (.istore_n 1, 1) := by decide +kernel
theorem dd52_8 : decode cX4_factor 8 = .ok (.iload_n 1, 1) := by decide +kernel
theorem dd52_9 : decode cX4_factor 9 = .ok (.bipush 40, 2) := by decide +kernel
theorem dd52_11 : decode cX4_factor 11 = .ok (.if_icmp .ne 35, 3) := by decide +kernel
theorem dd52_14 : decode cX4_factor 14 = .ok (.aload_n 0, 1) := by decide +kernel
theorem dd52_15 : decode cX4_factor 15 = .ok (.bipush 40, 2) := by decide +kernel
theorem dd52_17 : decode cX4_factor 17 = .ok (.invokevirtual 168, 3) := by decide +kernel
theorem dd52_20 : decode cX4_factor 20 = .ok (.ifCond .eq 169, 3) := by decide +kernel
theorem dd52_23 : decode cX4_factor 23 = .ok (.aload_n 0, 1) := by decide +kernel
theorem dd52_24 : decode cX4_factor 24 = .ok (.invokevirtual 223, 3) := by decide +kernel
theorem dd52_27 : decode cX4_factor 27 = .ok (.aload_n 0, 1) := by decide +kernel
theorem dd52_28 : decode cX4_factor 28 = .ok (.bipush 41, 2) := by decide +kernel
theorem dd52_30 : decode cX4_factor 30 = .ok (.invokevirtual 125, 3) := by decide +kernel
theorem dd52_33 : decode cX4_factor 33 = .ok (.aload_n 0, 1) := by decide +kernel
theorem dd52_34 : decode cX4_factor 34 = .ok (.dup, 1) := by decide +kernel
theorem dd52_35 : decode cX4_factor 35 = .ok (.getfield 42, 3) := by decide +kernel
theorem dd52_38 : decode cX4_factor 38 = .ok (.iconst 1, 1) := by decide +kernel
theorem dd52_39 : decode cX4_factor 39 = .ok (.isub, 1) := by decide +kernel
theorem dd52_40 : decode cX4_factor 40 = .ok (.putfield 42, 3) := by decide +kernel
theorem dd52_43 : decode cX4_factor 43 = .ok (.goto 146, 3) := by decide +kernel
theorem dd52_46 : decode cX4_factor 46 = .ok (.iload_n 1, 1) := by decide +kernel
theorem dd52_47 : decode cX4_factor 47 = .ok (.bipush 45, 2) := by decide +kernel
theorem dd52_49 : decode cX4_factor 49 = .ok (.if_icmp .ne 42, 3) := by decide +kernel
theorem dd52_52 : decode cX4_factor 52 = .ok (.aload_n 0, 1) := by decide +kernel
theorem dd52_53 : decode cX4_factor 53 = .ok (.invokevirtual 264, 3) := by decide +kernel
theorem dd52_56 : decode cX4_factor 56 = .ok (.aload_n 0, 1) := by decide +kernel
theorem dd52_57 : decode cX4_factor 57 = .ok (.bipush 45, 2) := by decide +kernel
theorem dd52_59 : decode cX4_factor 59 = .ok (.invokevirtual 168, 3) := by decide +kernel
theorem dd52_62 : decode cX4_factor 62 = .ok (.ifCond .eq 127, 3) := by decide +kernel
theorem dd52_65 : decode cX4_factor 65 = .ok (.aload_n 0, 1) := by decide +kernel
theorem dd52_66 : decode cX4_factor 66 = .ok (.invokevirtual 261, 3) := by decide +kernel
theorem dd52_69 : decode cX4_factor 69 = .ok (.aload_n 0, 1) := by decide +kernel
theorem dd52_70 : decode cX4_factor 70 = .ok (.dup, 1) := by decide +kernel
theorem dd52_71 : decode cX4_factor 71 = .ok (.getfield 42, 3) := by decide +kernel
theorem dd52_74 : decode cX4_factor 74 = .ok (.iconst 1, 1) := by decide +kernel
theorem dd52_75 : decode cX4_factor 75 = .ok (.isub, 1) := by decide +kernel
theorem dd52_76 : decode cX4_factor 76 = .ok (.putfield 42, 3) := by decide +kernel
theorem dd52_79 : decode cX4_factor 79 = .ok (.aload_n 0, 1) := by decide +kernel
theorem dd52_80 : decode cX4_factor 80 = .ok (.getfield 27, 3) := by decide +kernel
theorem dd52_83 : decode cX4_factor 83 = .ok (.iconst 5, 1) := by decide +kernel
theorem dd52_84 : decode cX4_factor 84 = .ok (.iconst 0, 1) := by decide +kernel
theorem dd52_85 : decode cX4_factor 85 = .ok (.invokevirtual 254, 3) := by decide +kernel
theorem dd52_88 : decode cX4_factor 88 = .ok (.goto 101, 3) := by decide +kernel
theorem dd52_91 : decode cX4_factor 91 = .ok (.iload_n 1, 1) := by decide +kernel
theorem dd52_92 : decode cX4_factor 92 = .ok (.iconst 1, 1) := by decide +kernel
theorem dd52_93 : decode cX4_factor 93 = .ok (.if_icmp .ne 10, 3) := by decide +kernel
theorem dd52_96 : decode cX4_factor 96 = .ok (.aload_n 0, 1) := by decide +kernel
theorem dd52_97 : decode cX4_factor 97 = .ok (.invokevirtual 267, 3) := by decide +kernel
theorem dd52_100 : decode cX4_factor 100 = .ok (.goto 89, 3) := by decide +kernel
theorem dd52_103 : decode cX4_factor 103 = .ok (.iload_n 1, 1) := by decide +kernel
theorem dd52_104 : decode cX4_factor 104 = .ok (.iconst 2, 1) := by decide +kernel
theorem dd52_105 : decode cX4_factor 105 = .ok (.if_icmp .eq 10, 3) := by decide +kernel
theorem dd52_108 : decode cX4_factor 108 = .ok (.iload_n 1, 1) := by decide +kernel
theorem dd52_109 : decode cX4_factor 109 = .ok (.sipush 143, 3) := by decide +kernel
theorem dd52_112 : decode cX4_factor 112 = .ok (.if_icmp .ne 25, 3) := by decide +kernel
theorem dd52_115 : decode cX4_factor 115 = .ok (.aload_n 0, 1) := by decide +kernel
theorem dd52_116 : decode cX4_factor 116 = .ok (.getfield 27, 3) := by decide +kernel
theorem dd52_119 : decode cX4_factor 119 = .ok (.iload_n 1, 1) := by decide +kernel
theorem dd52_120 : decode cX4_factor 120 = .ok (.aload_n 0, 1) := by decide +kernel
theorem dd52_121 : decode cX4_factor 121 = .ok (.getfield 54, 3) := by decide +kernel
theorem dd52_124 : decode cX4_factor 124 = .ok (.getfield 186, 3) := by decide +kernel
theorem dd52_127 : decode cX4_factor 127 = .ok (.invokevirtual 254, 3) := by decide +kernel
theorem dd52_130 : decode cX4_factor 130 = .ok (.aload_n 0, 1) := by decide +kernel
theorem dd52_131 : decode cX4_factor 131 = .ok (.invokevirtual 251, 3) := by decide +kernel
theorem dd52_134 : decode cX4_factor 134 = .ok (.goto 55, 3) := by decide +kernel
theorem dd52_137 : decode cX4_factor 137 = .ok (.iload_n 1, 1) := by decide +kernel
theorem dd52_138 : decode cX4_factor 138 = .ok (.sipush 142, 3) := by decide +kernel
theorem dd52_141 : decode cX4_factor 141 = .ok (.if_icmp .eq 10, 3) := by decide +kernel
theorem dd52_144 : decode cX4_factor 144 = .ok (.iload_n 1, 1) := by decide +kernel
theorem dd52_145 : decode cX4_factor 145 = .ok (.sipush 144, 3) := by decide +kernel
theorem dd52_148 : decode cX4_factor 148 = .ok (.if_icmp .ne 35, 3) := by decide +kernel
theorem dd52_151 : decode cX4_factor 151 = .ok (.aload_n 0, 1) := by decide +kernel
theorem dd52_152 : decode cX4_factor 152 = .ok (.invokevirtual 251, 3) := by decide +kernel
theorem dd52_155 : decode cX4_factor 155 = .ok (.aload_n 0, 1) := by decide +kernel
theorem dd52_156 : decode cX4_factor 156 = .ok (.getfield 27, 3) := by decide +kernel
theorem dd52_159 : decode cX4_factor 159 = .ok (.iload_n 1, 1) := by decide +kernel
theorem dd52_160 : decode cX4_factor 160 = .ok (.aload_n 0, 1) := by decide +kernel
theorem dd52_161 : decode cX4_factor 161 = .ok (.iload_n 1, 1) := by decide +kernel
theorem dd52_162 : decode cX4_factor 162 = .ok (.sipush 142, 3) := by decide +kernel
theorem dd52_165 : decode cX4_factor 165 = .ok (.if_icmp .ne 7, 3) := by decide +kernel
theorem dd52_168 : decode cX4_factor 168 = .ok (.iconst 1, 1) := by decide +kernel
theorem dd52_169 : decode cX4_factor 169 = .ok (.goto 5, 3) := by decide +kernel
theorem dd52_172 : decode cX4_factor 172 = .ok (.bipush 8, 2) := by decide +kernel
theorem dd52_174 : decode cX4_factor 174 = .ok (.invokevirtual 236, 3) := by decide +kernel
theorem dd52_177 : decode cX4_factor 177 = .ok (.invokevirtual 254, 3) := by decide +kernel
theorem dd52_180 : decode cX4_factor 180 = .ok (.goto 9, 3) := by decide +kernel
theorem dd52_183 : decode cX4_factor 183 = .ok (.aload_n 0, 1) := by decide +kernel
theorem dd52_184 : decode cX4_factor 184 = .ok (.iconst 2, 1) := by decide +kernel
theorem dd52_185 : decode cX4_factor 185 = .ok (.invokevirtual 73, 3) := by decide +kernel
theorem dd52_188 : decode cX4_factor 188 = .ok (.pop, 1) := by decide +kernel
theorem dd52_189 : decode cX4_factor 189 = .ok (.return_, 1) := by decide +kernel
def f52_174 (n : Nat) (g : zσ → Option zσ) (y0 : Int32) (y2 : Int32) (y3 : Nat) (s : zσ) : Option zσ :=
    yb1 (f57 n y0 s) fun v2 u1 =>
    yb0 (f54 n y3 y2 v2 u1) fun u3 =>
    some u3
set_option maxRecDepth 20000 in
theorem f52_174_ok {n d : Nat} {Df : Nat} {g : zσ → Option zσ} {y0 : Int32} {y2 : Int32} {y3 : Nat} {s : zσ} {s2 : zσ} (hd : Df + 5 ≤ d ∧ 8 ≤ Df) (hg : ∀ (s : zσ) (s2 : zσ), g s = some s2 → ∀ {d : Nat}, Df ≤ d → ∀ {w : zσ} {fz : Bool} {L : Nat} {xs : Nat → Int32}, zGo (zX fz L xs) d q_52 (0, [(0, .ref 1004)], [], zmk s w, 0, 0) (none, zmk s2 w, 0, 0)) (hy3 : zck 6 y3 = true) (h : f52_174 n g y0 y2 y3 s = some s2) {w : zσ} {fz : Bool} {L : Nat} {xs : Nat → Int32} : zGo (zX fz L xs) d q_52 (174, [], [.int y0, .ref 1004, .int y2, .ref y3], zmk s w, 0, 0) (none, zmk s2 w, 0, 0) := by
  obtain ⟨d, rfl⟩ : ∃ d0, d = d0 + 1 := ⟨d - 1, by omega⟩
  unfold f52_174 at h
  obtain ⟨v2, u1, hq, h⟩ := obnd h
  refine zCV1 (As := [.int y0]) (rest := [.int y2, .ref y3]) (b := 1004) (q' := q_57) dd52_174 rfl rfl (rcv_c rfl rfl (by decide)) rfl rfl rfl (f57_ok (d := d) (by omega)  hq) ?_
  obtain ⟨u3, hq, h⟩ := obn0 h
  refine zCV0 (As := [.int y2, .int v2]) (rest := []) (b := y3) (q' := q_54) dd52_177 rfl rfl (rcv_c (ck6_s hy3).1 (ck6_s hy3).2 (by decide)) rfl rfl rfl (f54_ok (d := d) (by omega) hy3 hq) ?_
  refine zGo_s (pc' := 189) (st' := []) dd52_180 rfl ?_
  obtain rfl := ore0 h
  exact zGo_ret dd52_189 rfl rfl
def f52_151 (n : Nat) (g : zσ → Option zσ) (x1 : Int32) (s : zσ) : Option zσ :=
    yb0 (f58 n s) fun u1 =>
    zrd 6 (u1.2.2 1004 5) fun a2 =>
    if x1 = (142 : Int32) then
    f52_174 n g (1 : Int32) x1 a2 u1
    else f52_174 n g (8 : Int32) x1 a2 u1
set_option maxRecDepth 20000 in
theorem f52_151_ok {n d : Nat} {Df : Nat} {g : zσ → Option zσ} {x1 : Int32} {s : zσ} {s2 : zσ} (hd : Df + 5 ≤ d ∧ 8 ≤ Df) (hg : ∀ (s : zσ) (s2 : zσ), g s = some s2 → ∀ {d : Nat}, Df ≤ d → ∀ {w : zσ} {fz : Bool} {L : Nat} {xs : Nat → Int32}, zGo (zX fz L xs) d q_52 (0, [(0, .ref 1004)], [], zmk s w, 0, 0) (none, zmk s2 w, 0, 0)) (h : f52_151 n g x1 s = some s2) {w : zσ} {fz : Bool} {L : Nat} {xs : Nat → Int32} : zGo (zX fz L xs) d q_52 (151, [(0, .ref 1004), (1, .int x1)], [], zmk s w, 0, 0) (none, zmk s2 w, 0, 0) := by
  obtain ⟨d, rfl⟩ : ∃ d0, d = d0 + 1 := ⟨d - 1, by omega⟩
  unfold f52_151 at h
  refine zGo_s (pc' := 152) (st' := [.ref 1004]) dd52_151 rfl ?_
  obtain ⟨u1, hq, h⟩ := obn0 h
  refine zCV0 (As := []) (rest := []) (b := 1004) (q' := q_58) dd52_152 rfl rfl (rcv_c rfl rfl (by decide)) rfl rfl rfl (f58_ok (d := d) (by omega)  hq) ?_
  refine zGo_s (pc' := 156) (st' := [.ref 1004]) dd52_155 rfl ?_
  obtain ⟨a2, e_a2, c_a2, h⟩ := ordd h
  refine cGR dd52_156 rfl rfl rfl rfl e_a2 ?_
  refine zGo_s (pc' := 160) (st' := [.int x1, .ref a2]) dd52_159 rfl ?_
  refine zGo_s (pc' := 161) (st' := [.ref 1004, .int x1, .ref a2]) dd52_160 rfl ?_
  refine zGo_s (pc' := 162) (st' := [.int x1, .ref 1004, .int x1, .ref a2]) dd52_161 rfl ?_
  refine zGo_s (pc' := 165) (st' := [.int (142 : Int32), .int x1, .ref 1004, .int x1, .ref a2]) dd52_162 rfl ?_
  rcases oite h with ⟨hc, h⟩ | ⟨hc, h⟩
  · refine zIF dd52_165 (kNeF hc) ?_
    refine zGo_s (pc' := 169) (st' := [.int (1 : Int32), .ref 1004, .int x1, .ref a2]) dd52_168 rfl ?_
    refine zGo_s (pc' := 174) (st' := [.int (1 : Int32), .ref 1004, .int x1, .ref a2]) dd52_169 rfl ?_
    exact zGo_lv (lv := []) ⟨by simp, by simp, by simp⟩ (f52_174_ok hd hg c_a2 h)
  · refine zIT dd52_165 rfl (kNeT hc) ?_
    refine zGo_s (pc' := 174) (st' := [.int (8 : Int32), .ref 1004, .int x1, .ref a2]) dd52_172 rfl ?_
    exact zGo_lv (lv := []) ⟨by simp, by simp, by simp⟩ (f52_174_ok hd hg c_a2 h)
def f52_115 (n : Nat) (g : zσ → Option zσ) (x1 : Int32) (s : zσ) : Option zσ :=
    zrd 6 (s.2.2 1004 5) fun a1 =>
    yb0 (f54 n a1 x1 (s.1 1001 6) s) fun u2 =>
    yb0 (f58 n u2) fun u3 =>
    some u3
set_option maxRecDepth 20000 in
theorem f52_115_ok {n d : Nat} {Df : Nat} {g : zσ → Option zσ} {x1 : Int32} {s : zσ} {s2 : zσ} (hd : Df + 5 ≤ d ∧ 8 ≤ Df) (hg : ∀ (s : zσ) (s2 : zσ), g s = some s2 → ∀ {d : Nat}, Df ≤ d → ∀ {w : zσ} {fz : Bool} {L : Nat} {xs : Nat → Int32}, zGo (zX fz L xs) d q_52 (0, [(0, .ref 1004)], [], zmk s w, 0, 0) (none, zmk s2 w, 0, 0)) (h : f52_115 n g x1 s = some s2) {w : zσ} {fz : Bool} {L : Nat} {xs : Nat → Int32} : zGo (zX fz L xs) d q_52 (115, [(0, .ref 1004), (1, .int x1)], [], zmk s w, 0, 0) (none, zmk s2 w, 0, 0) := by
  obtain ⟨d, rfl⟩ : ∃ d0, d = d0 + 1 := ⟨d - 1, by omega⟩
  unfold f52_115 at h
  refine zGo_s (pc' := 116) (st' := [.ref 1004]) dd52_115 rfl ?_
  obtain ⟨a1, e_a1, c_a1, h⟩ := ordd h
  refine cGR dd52_116 rfl rfl rfl rfl e_a1 ?_
  refine zGo_s (pc' := 120) (st' := [.int x1, .ref a1]) dd52_119 rfl ?_
  refine zGo_s (pc' := 121) (st' := [.ref 1004, .int x1, .ref a1]) dd52_120 rfl ?_
  refine cGF (e := 1001) dd52_121 rfl rfl rfl rfl rfl ?_
  refine cGI dd52_124 rfl rfl rfl rfl ?_
  obtain ⟨u2, hq, h⟩ := obn0 h
  refine zCV0 (As := [.int x1, .int (s.1 1001 6)]) (rest := []) (b := a1) (q' := q_54) dd52_127 rfl rfl (rcv_c (ck6_s c_a1).1 (ck6_s c_a1).2 (by decide)) rfl rfl rfl (f54_ok (d := d) (by omega) c_a1 hq) ?_
  refine zGo_s (pc' := 131) (st' := [.ref 1004]) dd52_130 rfl ?_
  obtain ⟨u3, hq, h⟩ := obn0 h
  refine zCV0 (As := []) (rest := []) (b := 1004) (q' := q_58) dd52_131 rfl rfl (rcv_c rfl rfl (by decide)) rfl rfl rfl (f58_ok (d := d) (by omega)  hq) ?_
  refine zGo_s (pc' := 189) (st' := []) dd52_134 rfl ?_
  obtain rfl := ore0 h
  exact zGo_ret dd52_189 rfl rfl
def f52b (n : Nat) (g : zσ → Option zσ) (s : zσ) : Option zσ :=
    zlet ((s.1 1001 4)) fun v1 =>
    if v1 = (40 : Int32) then
    yb1 (f41 n (40 : Int32) s) fun v13 u12 =>
    if v13 = (0 : Int32) then
    some u12
    else yb0 (f49 n g u12) fun u14 =>
    yb0 (f37 n (41 : Int32) u14) fun u15 =>
    zlet (sI u15 1004 9 ((u15.1 1004 9) - (1 : Int32))) fun u16 =>
    some u16
    else if v1 = (45 : Int32) then
    yb0 (f53 n s) fun u5 =>
    yb1 (f41 n (45 : Int32) u5) fun v7 u6 =>
    if v7 = (0 : Int32) then
    some u6
    else yb0 (g u6) fun u8 =>
    zlet (sI u8 1004 9 ((u8.1 1004 9) - (1 : Int32))) fun u9 =>
    zrd 6 (u9.2.2 1004 5) fun a10 =>
    yb0 (f54 n a10 (5 : Int32) (0 : Int32) u9) fun u11 =>
    some u11
    else if v1 = (1 : Int32) then
    yb0 (f55 n g s) fun u4 =>
    some u4
    else if v1 = (2 : Int32) then
    f52_115 n g v1 s
    else if v1 = (143 : Int32) then
    f52_115 n g v1 s
    else if v1 = (142 : Int32) then
    f52_151 n g v1 s
    else if v1 = (144 : Int32) then
    f52_151 n g v1 s
    else yb1 (f32 n (2 : Int32) s) fun v3 u2 =>
    some u2
set_option maxRecDepth 20000 in
theorem f52b_ok {n d : Nat} {Df : Nat} {g : zσ → Option zσ} {s : zσ} {s2 : zσ} (hd : Df + 5 ≤ d ∧ 8 ≤ Df) (hg : ∀ (s : zσ) (s2 : zσ), g s = some s2 → ∀ {d : Nat}, Df ≤ d → ∀ {w : zσ} {fz : Bool} {L : Nat} {xs : Nat → Int32}, zGo (zX fz L xs) d q_52 (0, [(0, .ref 1004)], [], zmk s w, 0, 0) (none, zmk s2 w, 0, 0)) (h : f52b n g s = some s2) {w : zσ} {fz : Bool} {L : Nat} {xs : Nat → Int32} : zGo (zX fz L xs) d q_52 (0, [(0, .ref 1004)], [], zmk s w, 0, 0) (none, zmk s2 w, 0, 0) := by
  obtain ⟨d, rfl⟩ : ∃ d0, d = d0 + 1 := ⟨d - 1, by omega⟩
  unfold f52b at h
  refine zGo_s (pc' := 1) (st' := [.ref 1004]) dd52_0 rfl ?_
  refine cGF (e := 1001) dd52_1 rfl rfl rfl rfl rfl ?_
  refine cGI dd52_4 rfl rfl rfl rfl ?_
  obtain ⟨v1, e_v1, h⟩ := olet h
  refine zGo_is1 e_v1 dd52_7 (x' := (8, [(1, .int v1), (0, .ref 1004)], [], _, _, _)) rfl ?_
  refine zGo_s (pc' := 9) (st' := [.int v1]) dd52_8 rfl ?_
  refine zGo_s (pc' := 11) (st' := [.int (40 : Int32), .int v1]) dd52_9 rfl ?_
  rcases oite h with ⟨hc, h⟩ | ⟨hc, h⟩
  · refine zIF dd52_11 (kNeF hc) ?_
    refine zGo_s (pc' := 15) (st' := [.ref 1004]) dd52_14 rfl ?_
    refine zGo_s (pc' := 17) (st' := [.int (40 : Int32), .ref 1004]) dd52_15 rfl ?_
    obtain ⟨v13, u12, hq, h⟩ := obnd h
    refine zCV1 (As := [.int (40 : Int32)]) (rest := []) (b := 1004) (q' := q_41) dd52_17 rfl rfl (rcv_c rfl rfl (by decide)) rfl rfl rfl (f41_ok (d := d) (by omega)  hq) ?_
    rcases oite h with ⟨hc, h⟩ | ⟨hc, h⟩
    · refine zUT dd52_20 rfl (kEqT hc) ?_
      obtain rfl := ore0 h
      exact zGo_ret dd52_189 rfl rfl
    · refine zUF dd52_20 (kEqF hc) ?_
      refine zGo_s (pc' := 24) (st' := [.ref 1004]) dd52_23 rfl ?_
      obtain ⟨u14, hq, h⟩ := obn0 h
      refine zCV0 (As := []) (rest := []) (b := 1004) (q' := q_49) dd52_24 rfl rfl (rcv_c rfl rfl (by decide)) rfl rfl rfl (f49_ok (d := d) (by omega) hg  hq) ?_
      refine zGo_s (pc' := 28) (st' := [.ref 1004]) dd52_27 rfl ?_
      refine zGo_s (pc' := 30) (st' := [.int (41 : Int32), .ref 1004]) dd52_28 rfl ?_
      obtain ⟨u15, hq, h⟩ := obn0 h
      refine zCV0 (As := [.int (41 : Int32)]) (rest := []) (b := 1004) (q' := q_37) dd52_30 rfl rfl (rcv_c rfl rfl (by decide)) rfl rfl rfl (f37_ok (d := d) (by omega)  hq) ?_
      refine zGo_s (pc' := 34) (st' := [.ref 1004]) dd52_33 rfl ?_
      refine zGo_s (pc' := 35) (st' := [.ref 1004, .ref 1004]) dd52_34 rfl ?_
      refine cGI dd52_35 rfl rfl rfl rfl ?_
      refine zGo_s (pc' := 39) (st' := [.int (1 : Int32), .int (u15.1 1004 9), .ref 1004]) dd52_38 rfl ?_
      refine zGo_s (pc' := 40) (st' := [.int ((u15.1 1004 9) - (1 : Int32)), .ref 1004]) dd52_39 rfl ?_
      obtain ⟨u16, e_u16, h⟩ := olet h
      refine cPI dd52_40 rfl rfl rfl rfl rfl rfl e_u16 ?_
      refine zGo_s (pc' := 189) (st' := []) dd52_43 rfl ?_
      obtain rfl := ore0 h
      exact zGo_ret dd52_189 rfl rfl
  · refine zIT dd52_11 rfl (kNeT hc) ?_
    refine zGo_s (pc' := 47) (st' := [.int v1]) dd52_46 rfl ?_
    refine zGo_s (pc' := 49) (st' := [.int (45 : Int32), .int v1]) dd52_47 rfl ?_
    rcases oite h with ⟨hc, h⟩ | ⟨hc, h⟩
    · refine zIF dd52_49 (kNeF hc) ?_
      refine zGo_s (pc' := 53) (st' := [.ref 1004]) dd52_52 rfl ?_
      obtain ⟨u5, hq, h⟩ := obn0 h
      refine zCV0 (As := []) (rest := []) (b := 1004) (q' := q_53) dd52_53 rfl rfl (rcv_c rfl rfl (by decide)) rfl rfl rfl (f53_ok (d := d) (by omega)  hq) ?_
      refine zGo_s (pc' := 57) (st' := [.ref 1004]) dd52_56 rfl ?_
      refine zGo_s (pc' := 59) (st' := [.int (45 : Int32), .ref 1004]) dd52_57 rfl ?_
      obtain ⟨v7, u6, hq, h⟩ := obnd h
      refine zCV1 (As := [.int (45 : Int32)]) (rest := []) (b := 1004) (q' := q_41) dd52_59 rfl rfl (rcv_c rfl rfl (by decide)) rfl rfl rfl (f41_ok (d := d) (by omega)  hq) ?_
      rcases oite h with ⟨hc, h⟩ | ⟨hc, h⟩
      · refine zUT dd52_62 rfl (kEqT hc) ?_
        obtain rfl := ore0 h
        exact zGo_ret dd52_189 rfl rfl
      · refine zUF dd52_62 (kEqF hc) ?_
        refine zGo_s (pc' := 66) (st' := [.ref 1004]) dd52_65 rfl ?_
        obtain ⟨u8, hq, h⟩ := obn0 h
        refine zCV0 (As := []) (rest := []) (b := 1004) (q' := q_52) dd52_66 rfl rfl (rcv_c rfl rfl (by decide)) rfl rfl rfl (hg _ _  hq (by omega)) ?_
        refine zGo_s (pc' := 70) (st' := [.ref 1004]) dd52_69 rfl ?_
        refine zGo_s (pc' := 71) (st' := [.ref 1004, .ref 1004]) dd52_70 rfl ?_
        refine cGI dd52_71 rfl rfl rfl rfl ?_
        refine zGo_s (pc' := 75) (st' := [.int (1 : Int32), .int (u8.1 1004 9), .ref 1004]) dd52_74 rfl ?_
        refine zGo_s (pc' := 76) (st' := [.int ((u8.1 1004 9) - (1 : Int32)), .ref 1004]) dd52_75 rfl ?_
        obtain ⟨u9, e_u9, h⟩ := olet h
        refine cPI dd52_76 rfl rfl rfl rfl rfl rfl e_u9 ?_
        refine zGo_s (pc' := 80) (st' := [.ref 1004]) dd52_79 rfl ?_
        obtain ⟨a10, e_a10, c_a10, h⟩ := ordd h
        refine cGR dd52_80 rfl rfl rfl rfl e_a10 ?_
        refine zGo_s (pc' := 84) (st' := [.int (5 : Int32), .ref a10]) dd52_83 rfl ?_
        refine zGo_s (pc' := 85) (st' := [.int (0 : Int32), .int (5 : Int32), .ref a10]) dd52_84 rfl ?_
        obtain ⟨u11, hq, h⟩ := obn0 h
        refine zCV0 (As := [.int (5 : Int32), .int (0 : Int32)]) (rest := []) (b := a10) (q' := q_54) dd52_85 rfl rfl (rcv_c (ck6_s c_a10).1 (ck6_s c_a10).2 (by decide)) rfl rfl rfl (f54_ok (d := d) (by omega) c_a10 hq) ?_
        refine zGo_s (pc' := 189) (st' := []) dd52_88 rfl ?_
        obtain rfl := ore0 h
        exact zGo_ret dd52_189 rfl rfl
    · refine zIT dd52_49 rfl (kNeT hc) ?_
      refine zGo_s (pc' := 92) (st' := [.int v1]) dd52_91 rfl ?_
      refine zGo_s (pc' := 93) (st' := [.int (1 : Int32), .int v1]) dd52_92 rfl ?_
      rcases oite h with ⟨hc, h⟩ | ⟨hc, h⟩
      · refine zIF dd52_93 (kNeF hc) ?_
        refine zGo_s (pc' := 97) (st' := [.ref 1004]) dd52_96 rfl ?_
        obtain ⟨u4, hq, h⟩ := obn0 h
        refine zCV0 (As := []) (rest := []) (b := 1004) (q' := q_55) dd52_97 rfl rfl (rcv_c rfl rfl (by decide)) rfl rfl rfl (f55_ok (d := d) (by omega) hg  hq) ?_
        refine zGo_s (pc' := 189) (st' := []) dd52_100 rfl ?_
        obtain rfl := ore0 h
        exact zGo_ret dd52_189 rfl rfl
      · refine zIT dd52_93 rfl (kNeT hc) ?_
        refine zGo_s (pc' := 104) (st' := [.int v1]) dd52_103 rfl ?_
        refine zGo_s (pc' := 105) (st' := [.int (2 : Int32), .int v1]) dd52_104 rfl ?_
        rcases oite h with ⟨hc, h⟩ | ⟨hc, h⟩
        · refine zIT dd52_105 rfl (kEqT hc) ?_
          exact zGo_lv (lv := [(0, .ref 1004), (1, .int v1)]) ⟨by simp, by simp, by simp⟩ (f52_115_ok hd hg h)
        · refine zIF dd52_105 (kEqF hc) ?_
          refine zGo_s (pc' := 109) (st' := [.int v1]) dd52_108 rfl ?_
          refine zGo_s (pc' := 112) (st' := [.int (143 : Int32), .int v1]) dd52_109 rfl ?_
          rcases oite h with ⟨hc, h⟩ | ⟨hc, h⟩
          · refine zIF dd52_112 (kNeF hc) ?_
            exact zGo_lv (lv := [(0, .ref 1004), (1, .int v1)]) ⟨by simp, by simp, by simp⟩ (f52_115_ok hd hg h)
          · refine zIT dd52_112 rfl (kNeT hc) ?_
            refine zGo_s (pc' := 138) (st' := [.int v1]) dd52_137 rfl ?_
            refine zGo_s (pc' := 141) (st' := [.int (142 : Int32), .int v1]) dd52_138 rfl ?_
            rcases oite h with ⟨hc, h⟩ | ⟨hc, h⟩
            · refine zIT dd52_141 rfl (kEqT hc) ?_
              exact zGo_lv (lv := [(0, .ref 1004), (1, .int v1)]) ⟨by simp, by simp, by simp⟩ (f52_151_ok hd hg h)
            · refine zIF dd52_141 (kEqF hc) ?_
              refine zGo_s (pc' := 145) (st' := [.int v1]) dd52_144 rfl ?_
              refine zGo_s (pc' := 148) (st' := [.int (144 : Int32), .int v1]) dd52_145 rfl ?_
              rcases oite h with ⟨hc, h⟩ | ⟨hc, h⟩
              · refine zIF dd52_148 (kNeF hc) ?_
                exact zGo_lv (lv := [(0, .ref 1004), (1, .int v1)]) ⟨by simp, by simp, by simp⟩ (f52_151_ok hd hg h)
              · refine zIT dd52_148 rfl (kNeT hc) ?_
                refine zGo_s (pc' := 184) (st' := [.ref 1004]) dd52_183 rfl ?_
                refine zGo_s (pc' := 185) (st' := [.int (2 : Int32), .ref 1004]) dd52_184 rfl ?_
                obtain ⟨v3, u2, hq, h⟩ := obnd h
                refine zCV1 (As := [.int (2 : Int32)]) (rest := []) (b := 1004) (q' := q_32) dd52_185 rfl rfl (rcv_c rfl rfl (by decide)) rfl rfl rfl (f32_ok (d := d) (by omega)  hq) ?_
                refine zGo_s (pc' := 189) (st' := []) dd52_188 rfl ?_
                obtain rfl := ore0 h
                exact zGo_ret dd52_189 rfl rfl
def f52 (n : Nat) : Nat → zσ → Option zσ
  | 0, _ => none
  | k + 1, s => f52b n (f52 n k) s
theorem f52_all {n : Nat} : ∀ (k : Nat) (s : zσ) (s2 : zσ), f52 n k s = some s2 → ∀ {d : Nat}, 8 + 6 * (k + 1) ≤ d → ∀ {w : zσ} {fz : Bool} {L : Nat} {xs : Nat → Int32}, zGo (zX fz L xs) d q_52 (0, [(0, .ref 1004)], [], zmk s w, 0, 0) (none, zmk s2 w, 0, 0) := by
  intro k
  induction k with
  | zero => intro s s2 h; cases h
  | succ k ih =>
    intro s s2 h d hd w fz L xs
    exact f52b_ok (Df := 8 + 6 * (k + 1)) (by omega) ih h
theorem f52_okk20 {n : Nat} : ∀ (s : zσ) (s2 : zσ), f52 n 20 s = some s2 → ∀ {d : Nat}, 134 ≤ d → ∀ {w : zσ} {fz : Bool} {L : Nat} {xs : Nat → Int32}, zGo (zX fz L xs) d q_52 (0, [(0, .ref 1004)], [], zmk s w, 0, 0) (none, zmk s2 w, 0, 0) :=
  fun _ _ h _ hd _ _ _ _ => f52_all 20 _ _ h (by omega)
/-! PH$Reader.branch(I)V -/
theorem dd48_0 : decode cX4_branch 0 = .ok (.aload_n 0, 1) := by decide +kernel
theorem dd48_1 : decode cX4_branch 1 = .ok (.getfield 27, 3) := by decide +kernel
theorem dd48_4 : decode cX4_branch 4 = .ok (.getfield 212, 3) := by decide +kernel
theorem dd48_7 : decode cX4_branch 7 = .ok (.iload_n 1, 1) := by decide +kernel
theorem dd48_8 : decode cX4_branch 8 = .ok (.iaload, 1) := by decide +kernel
theorem dd48_9 : decode cX4_branch 9 = .ok (.sipush 152, 3) := by decide +kernel
theorem dd48_12 : decode cX4_branch 12 = .ok (.if_icmp .ne 7, 3) := by decide +kernel
theorem dd48_15 : decode cX4_branch 15 = .ok (.iconst 1, 1) := by decide +kernel
theorem dd48_16 : decode cX4_branch 16 = .ok (.goto 4, 3) := by decide +kernel
theorem dd48_19 : decode cX4_branch 19 = .ok (.iconst 0, 1) := by decide +kernel
theorem dd48_20 : decode cX4_branch 20 = .ok (.istore_n 2, 1) := by decide +kernel
theorem dd48_21 : decode cX4_branch 21 = .ok (.aload_n 0, 1) := by decide +kernel
theorem dd48_22 : decode cX4_branch 22 = .ok (.getfield 54, 3) := by decide +kernel
theorem dd48_25 : decode cX4_branch 25 = .ok (.invokevirtual 104, 3) := by decide +kernel
theorem dd48_28 : decode cX4_branch 28 = .ok (.aload_n 0, 1) := by decide +kernel
theorem dd48_29 : decode cX4_branch 29 = .ok (.invokevirtual 223, 3) := by decide +kernel
theorem dd48_32 : decode cX4_branch 32 = .ok (.aload_n 0, 1) := by decide +kernel
theorem dd48_33 : decode cX4_branch 33 = .ok (.getfield 27, 3) := by decide +kernel
theorem dd48_36 : decode cX4_branch 36 = .ok (.getfield 217, 3) := by decide +kernel
theorem dd48_39 : decode cX4_branch 39 = .ok (.iload_n 1, 1) := by decide +kernel
theorem dd48_40 : decode cX4_branch 40 = .ok (.aload_n 0, 1) := by decide +kernel
theorem dd48_41 : decode cX4_branch 41 = .ok (.getfield 27, 3) := by decide +kernel
theorem dd48_44 : decode cX4_branch 44 = .ok (.getfield 220, 3) := by decide +kernel
theorem dd48_47 : decode cX4_branch 47 = .ok (.iastore, 1) := by decide +kernel
theorem dd48_48 : decode cX4_branch 48 = .ok (.aload_n 0, 1) := by decide +kernel
theorem dd48_49 : decode cX4_branch 49 = .ok (.getfield 27, 3) := by decide +kernel
theorem dd48_52 : decode cX4_branch 52 = .ok (.getfield 226, 3) := by decide +kernel
theorem dd48_55 : decode cX4_branch 55 = .ok (.iload_n 1, 1) := by decide +kernel
theorem dd48_56 : decode cX4_branch 56 = .ok (.aload_n 0, 1) := by decide +kernel
theorem dd48_57 : decode cX4_branch 57 = .ok (.iload_n 2, 1) := by decide +kernel
theorem dd48_58 : decode cX4_branch 58 = .ok (.ifCond .eq 7, 3) := by decide +kernel
theorem dd48_61 : decode cX4_branch 61 = .ok (.iconst 3, 1) := by decide +kernel
theorem dd48_62 : decode cX4_branch 62 = .ok (.goto 4, 3) := by decide +kernel
theorem dd48_65 : decode cX4_branch 65 = .ok (.iconst 2, 1) := by decide +kernel
theorem dd48_66 : decode cX4_branch 66 = .ok (.iload_n 1, 1) := by decide +kernel
theorem dd48_67 : decode cX4_branch 67 = .ok (.invokevirtual 128, 3) := by decide +kernel
theorem dd48_70 : decode cX4_branch 70 = .ok (.iastore, 1) := by decide +kernel
theorem dd48_71 : decode cX4_branch 71 = .ok (.iload_n 2, 1) := by decide +kernel
theorem dd48_72 : decode cX4_branch 72 = .ok (.ifCond .ne 28, 3) := by decide +kernel
theorem dd48_75 : decode cX4_branch 75 = .ok (.aload_n 0, 1) := by decide +kernel
theorem dd48_76 : decode cX4_branch 76 = .ok (.sipush 140, 3) := by decide +kernel
theorem dd48_79 : decode cX4_branch 79 = .ok (.invokevirtual 110, 3) := by decide +kernel
theorem dd48_82 : decode cX4_branch 82 = .ok (.ifCond .eq 18, 3) := by decide +kernel
theorem dd48_85 : decode cX4_branch 85 = .ok (.aload_n 0, 1) := by decide +kernel
theorem dd48_86 : decode cX4_branch 86 = .ok (.getfield 27, 3) := by decide +kernel
theorem dd48_89 : decode cX4_branch 89 = .ok (.getfield 229, 3) := by decide +kernel
theorem dd48_92 : decode cX4_branch 92 = .ok (.iload_n 1, 1) := by decide +kernel
theorem dd48_93 : decode cX4_branch 93 = .ok (.aload_n 0, 1) := by decide +kernel
theorem dd48_94 : decode cX4_branch 94 = .ok (.iconst 2, 1) := by decide +kernel
theorem dd48_95 : decode cX4_branch 95 = .ok (.iload_n 1, 1) := by decide +kernel
theorem dd48_96 : decode cX4_branch 96 = .ok (.invokevirtual 128, 3) := by decide +kernel
theorem dd48_99 : decode cX4_branch 99 = .ok (.iastore, 1) := by decide +kernel
theorem dd48_100 : decode cX4_branch 100 = .ok (.return_, 1) := by decide +kernel
def f48_66 (n : Nat) (g : Int32 → Int32 → zσ → Option (Int32 × zσ)) (x1 : Int32) (x2 : Int32) (y0 : Int32) (y2 : Int32) (y3 : Nat) (s : zσ) : Option zσ :=
    yb1 (g y0 x1 s) fun v2 u1 =>
    if zin? y2 200 = true then
    zlet (sI u1 y3 (nx y2) v2) fun u3 =>
    if x2 = (0 : Int32) then
    yb1 (f39 n (140 : Int32) u3) fun v5 u4 =>
    if v5 = (0 : Int32) then
    some u4
    else zrd 6 (u4.2.2 1004 5) fun a6 =>
    yb1 (g (2 : Int32) x1 u4) fun v8 u7 =>
    if zin? x1 200 = true then
    zlet (sI u7 (a6 + 3) (nx x1) v8) fun u9 =>
    some u9
    else none
    else some u3
    else none
set_option maxRecDepth 20000 in
theorem f48_66_ok {n d : Nat} {Df : Nat} {g : Int32 → Int32 → zσ → Option (Int32 × zσ)} {x1 : Int32} {x2 : Int32} {y0 : Int32} {y2 : Int32} {y3 : Nat} {s : zσ} {s2 : zσ} (hd : Df + 1 ≤ d ∧ 138 ≤ Df) (hg : ∀ (x1 : Int32) (x2 : Int32) (s : zσ) (v : Int32) (s2 : zσ), g x1 x2 s = some (v, s2) → ∀ {d : Nat}, Df ≤ d → ∀ {w : zσ} {fz : Bool} {L : Nat} {xs : Nat → Int32}, zGo (zX fz L xs) d q_40 (0, [(0, .ref 1004), (1, .int x1), (2, .int x2)], [], zmk s w, 0, 0) (some (.int v), zmk s2 w, 0, 0)) (hy3c : zcs y3 = true) (hy3s : zsh y3 = (1, 0, 200)) (h : f48_66 n g x1 x2 y0 y2 y3 s = some s2) {w : zσ} {fz : Bool} {L : Nat} {xs : Nat → Int32} : zGo (zX fz L xs) d q_48 (66, [(0, .ref 1004), (1, .int x1), (2, .int x2)], [.int y0, .ref 1004, .int y2, .ref y3], zmk s w, 0, 0) (none, zmk s2 w, 0, 0) := by
  obtain ⟨d, rfl⟩ : ∃ d0, d = d0 + 1 := ⟨d - 1, by omega⟩
  unfold f48_66 at h
  refine zGo_s (pc' := 67) (st' := [.int x1, .int y0, .ref 1004, .int y2, .ref y3]) dd48_66 rfl ?_
  obtain ⟨v2, u1, hq, h⟩ := obnd h
  refine zCV1 (As := [.int y0, .int x1]) (rest := [.int y2, .ref y3]) (b := 1004) (q' := q_40) dd48_67 rfl rfl (rcv_c rfl rfl (by decide)) rfl rfl rfl (hg _ _ _ _ _  hq (by omega)) ?_
  obtain ⟨hi, h⟩ := ochk h
  obtain ⟨u3, e_u3, h⟩ := olet h
  refine cIS dd48_70 hy3c hy3s hi e_u3 ?_
  refine zGo_s (pc' := 72) (st' := [.int x2]) dd48_71 rfl ?_
  rcases oite h with ⟨hc, h⟩ | ⟨hc, h⟩
  · refine zUF dd48_72 (kNeF hc) ?_
    refine zGo_s (pc' := 76) (st' := [.ref 1004]) dd48_75 rfl ?_
    refine zGo_s (pc' := 79) (st' := [.int (140 : Int32), .ref 1004]) dd48_76 rfl ?_
    obtain ⟨v5, u4, hq, h⟩ := obnd h
    refine zCV1 (As := [.int (140 : Int32)]) (rest := []) (b := 1004) (q' := q_39) dd48_79 rfl rfl (rcv_c rfl rfl (by decide)) rfl rfl rfl (f39_ok (d := d) (by omega)  hq) ?_
    rcases oite h with ⟨hc, h⟩ | ⟨hc, h⟩
    · refine zUT dd48_82 rfl (kEqT hc) ?_
      obtain rfl := ore0 h
      exact zGo_ret dd48_100 rfl rfl
    · refine zUF dd48_82 (kEqF hc) ?_
      refine zGo_s (pc' := 86) (st' := [.ref 1004]) dd48_85 rfl ?_
      obtain ⟨a6, e_a6, c_a6, h⟩ := ordd h
      refine cGR dd48_86 rfl rfl rfl rfl e_a6 ?_
      refine cGF (e := (a6 + 3)) dd48_89 rfl (ck6_s c_a6).1 (ck6_s c_a6).2 rfl (cf6_2 c_a6).1 ?_
      refine zGo_s (pc' := 93) (st' := [.int x1, .ref (a6 + 3)]) dd48_92 rfl ?_
      refine zGo_s (pc' := 94) (st' := [.ref 1004, .int x1, .ref (a6 + 3)]) dd48_93 rfl ?_
      refine zGo_s (pc' := 95) (st' := [.int (2 : Int32), .ref 1004, .int x1, .ref (a6 + 3)]) dd48_94 rfl ?_
      refine zGo_s (pc' := 96) (st' := [.int x1, .int (2 : Int32), .ref 1004, .int x1, .ref (a6 + 3)]) dd48_95 rfl ?_
      obtain ⟨v8, u7, hq, h⟩ := obnd h
      refine zCV1 (As := [.int (2 : Int32), .int x1]) (rest := [.int x1, .ref (a6 + 3)]) (b := 1004) (q' := q_40) dd48_96 rfl rfl (rcv_c rfl rfl (by decide)) rfl rfl rfl (hg _ _ _ _ _  hq (by omega)) ?_
      obtain ⟨hi, h⟩ := ochk h
      obtain ⟨u9, e_u9, h⟩ := olet h
      refine cIS dd48_99 (cf6_2 c_a6).2.1 (cf6_2 c_a6).2.2 hi e_u9 ?_
      obtain rfl := ore0 h
      exact zGo_ret dd48_100 rfl rfl
  · refine zUT dd48_72 rfl (kNeT hc) ?_
    obtain rfl := ore0 h
    exact zGo_ret dd48_100 rfl rfl
def f48_20 (n : Nat) (g : Int32 → Int32 → zσ → Option (Int32 × zσ)) (x1 : Int32) (y0 : Int32) (s : zσ) : Option zσ :=
    yb0 (f26 n s) fun u1 =>
    yb0 (f49 n (f52 n 20) u1) fun u2 =>
    zrd 6 (u2.2.2 1004 5) fun a3 =>
    zrd 6 (u2.2.2 1004 5) fun a4 =>
    if zin? x1 200 = true then
    zlet (sI u2 (a3 + 5) (nx x1) (u2.1 a4 11)) fun u5 =>
    zrd 6 (u5.2.2 1004 5) fun a6 =>
    if y0 = (0 : Int32) then
    f48_66 n g x1 y0 (2 : Int32) x1 (a6 + 2) u5
    else f48_66 n g x1 y0 (3 : Int32) x1 (a6 + 2) u5
    else none
set_option maxRecDepth 20000 in
theorem f48_20_ok {n d : Nat} {Df : Nat} {g : Int32 → Int32 → zσ → Option (Int32 × zσ)} {x1 : Int32} {y0 : Int32} {s : zσ} {s2 : zσ} (hd : Df + 1 ≤ d ∧ 138 ≤ Df) (hg : ∀ (x1 : Int32) (x2 : Int32) (s : zσ) (v : Int32) (s2 : zσ), g x1 x2 s = some (v, s2) → ∀ {d : Nat}, Df ≤ d → ∀ {w : zσ} {fz : Bool} {L : Nat} {xs : Nat → Int32}, zGo (zX fz L xs) d q_40 (0, [(0, .ref 1004), (1, .int x1), (2, .int x2)], [], zmk s w, 0, 0) (some (.int v), zmk s2 w, 0, 0)) (h : f48_20 n g x1 y0 s = some s2) {w : zσ} {fz : Bool} {L : Nat} {xs : Nat → Int32} : zGo (zX fz L xs) d q_48 (20, [(0, .ref 1004), (1, .int x1)], [.int y0], zmk s w, 0, 0) (none, zmk s2 w, 0, 0) := by
  obtain ⟨d, rfl⟩ : ∃ d0, d = d0 + 1 := ⟨d - 1, by omega⟩
  unfold f48_20 at h
  refine zGo_s (pc' := 21) (st' := []) (lv' := [(2, .int y0), (0, .ref 1004), (1, .int x1)]) dd48_20 rfl ?_
  refine zGo_s (pc' := 22) (st' := [.ref 1004]) dd48_21 rfl ?_
  refine cGF (e := 1001) dd48_22 rfl rfl rfl rfl rfl ?_
  obtain ⟨u1, hq, h⟩ := obn0 h
  refine zCV0 (As := []) (rest := []) (b := 1001) (q' := q_26) dd48_25 rfl rfl (rcv_c rfl rfl (by decide)) rfl rfl rfl (f26_ok (d := d) (by omega)  hq) ?_
  refine zGo_s (pc' := 29) (st' := [.ref 1004]) dd48_28 rfl ?_
  obtain ⟨u2, hq, h⟩ := obn0 h
  refine zCV0 (As := []) (rest := []) (b := 1004) (q' := q_49) dd48_29 rfl rfl (rcv_c rfl rfl (by decide)) rfl rfl rfl (f49_ok (d := d) (Df := 134) (by omega) f52_okk20  hq) ?_
  refine zGo_s (pc' := 33) (st' := [.ref 1004]) dd48_32 rfl ?_
  obtain ⟨a3, e_a3, c_a3, h⟩ := ordd h
  refine cGR dd48_33 rfl rfl rfl rfl e_a3 ?_
  refine cGF (e := (a3 + 5)) dd48_36 rfl (ck6_s c_a3).1 (ck6_s c_a3).2 rfl (cf6_4 c_a3).1 ?_
  refine zGo_s (pc' := 40) (st' := [.int x1, .ref (a3 + 5)]) dd48_39 rfl ?_
  refine zGo_s (pc' := 41) (st' := [.ref 1004, .int x1, .ref (a3 + 5)]) dd48_40 rfl ?_
  obtain ⟨a4, e_a4, c_a4, h⟩ := ordd h
  refine cGR dd48_41 rfl rfl rfl rfl e_a4 ?_
  refine cGI dd48_44 rfl (ck6_s c_a4).1 (ck6_s c_a4).2 rfl ?_
  obtain ⟨hi, h⟩ := ochk h
  obtain ⟨u5, e_u5, h⟩ := olet h
  refine cIS dd48_47 (cf6_4 c_a3).2.1 (cf6_4 c_a3).2.2 hi e_u5 ?_
  refine zGo_s (pc' := 49) (st' := [.ref 1004]) dd48_48 rfl ?_
  obtain ⟨a6, e_a6, c_a6, h⟩ := ordd h
  refine cGR dd48_49 rfl rfl rfl rfl e_a6 ?_
  refine cGF (e := (a6 + 2)) dd48_52 rfl (ck6_s c_a6).1 (ck6_s c_a6).2 rfl (cf6_1 c_a6).1 ?_
  refine zGo_s (pc' := 56) (st' := [.int x1, .ref (a6 + 2)]) dd48_55 rfl ?_
  refine zGo_s (pc' := 57) (st' := [.ref 1004, .int x1, .ref (a6 + 2)]) dd48_56 rfl ?_
  refine zGo_s (pc' := 58) (st' := [.int y0, .ref 1004, .int x1, .ref (a6 + 2)]) dd48_57 rfl ?_
  rcases oite h with ⟨hc, h⟩ | ⟨hc, h⟩
  · refine zUT dd48_58 rfl (kEqT hc) ?_
    refine zGo_s (pc' := 66) (st' := [.int (2 : Int32), .ref 1004, .int x1, .ref (a6 + 2)]) dd48_65 rfl ?_
    exact zGo_lv (lv := [(0, .ref 1004), (1, .int x1), (2, .int y0)]) ⟨by simp, by simp, by simp⟩ (f48_66_ok hd hg (cf6_1 c_a6).2.1 (cf6_1 c_a6).2.2 h)
  · refine zUF dd48_58 (kEqF hc) ?_
    refine zGo_s (pc' := 62) (st' := [.int (3 : Int32), .ref 1004, .int x1, .ref (a6 + 2)]) dd48_61 rfl ?_
    refine zGo_s (pc' := 66) (st' := [.int (3 : Int32), .ref 1004, .int x1, .ref (a6 + 2)]) dd48_62 rfl ?_
    exact zGo_lv (lv := [(0, .ref 1004), (1, .int x1), (2, .int y0)]) ⟨by simp, by simp, by simp⟩ (f48_66_ok hd hg (cf6_1 c_a6).2.1 (cf6_1 c_a6).2.2 h)
def f48 (n : Nat) (g : Int32 → Int32 → zσ → Option (Int32 × zσ)) (x1 : Int32) (s : zσ) : Option zσ :=
    zrd 6 (s.2.2 1004 5) fun a1 =>
    if zin? x1 200 = true then
    if (s.1 (a1 + 1) (nx x1)) = (152 : Int32) then
    f48_20 n g x1 (1 : Int32) s
    else f48_20 n g x1 (0 : Int32) s
    else none
set_option maxRecDepth 20000 in
theorem f48_ok {n d : Nat} {Df : Nat} {g : Int32 → Int32 → zσ → Option (Int32 × zσ)} {x1 : Int32} {s : zσ} {s2 : zσ} (hd : Df + 1 ≤ d ∧ 138 ≤ Df) (hg : ∀ (x1 : Int32) (x2 : Int32) (s : zσ) (v : Int32) (s2 : zσ), g x1 x2 s = some (v, s2) → ∀ {d : Nat}, Df ≤ d → ∀ {w : zσ} {fz : Bool} {L : Nat} {xs : Nat → Int32}, zGo (zX fz L xs) d q_40 (0, [(0, .ref 1004), (1, .int x1), (2, .int x2)], [], zmk s w, 0, 0) (some (.int v), zmk s2 w, 0, 0)) (h : f48 n g x1 s = some s2) {w : zσ} {fz : Bool} {L : Nat} {xs : Nat → Int32} : zGo (zX fz L xs) d q_48 (0, [(0, .ref 1004), (1, .int x1)], [], zmk s w, 0, 0) (none, zmk s2 w, 0, 0) := by
  obtain ⟨d, rfl⟩ : ∃ d0, d = d0 + 1 := ⟨d - 1, by omega⟩
  unfold f48 at h
  refine zGo_s (pc' := 1) (st' := [.ref 1004]) dd48_0 rfl ?_
  obtain ⟨a1, e_a1, c_a1, h⟩ := ordd h
  refine cGR dd48_1 rfl rfl rfl rfl e_a1 ?_
  refine cGF (e := (a1 + 1)) dd48_4 rfl (ck6_s c_a1).1 (ck6_s c_a1).2 rfl (cf6_0 c_a1).1 ?_
  refine zGo_s (pc' := 8) (st' := [.int x1, .ref (a1 + 1)]) dd48_7 rfl ?_
  obtain ⟨hi, h⟩ := ochk h
  refine cIA dd48_8 (cf6_0 c_a1).2.1 (cf6_0 c_a1).2.2 hi ?_
  refine zGo_s (pc' := 12) (st' := [.int (152 : Int32), .int (s.1 (a1 + 1) (nx x1))]) dd48_9 rfl ?_
  rcases oite h with ⟨hc, h⟩ | ⟨hc, h⟩
  · refine zIF dd48_12 (kNeF hc) ?_
    refine zGo_s (pc' := 16) (st' := [.int (1 : Int32)]) dd48_15 rfl ?_
    refine zGo_s (pc' := 20) (st' := [.int (1 : Int32)]) dd48_16 rfl ?_
    exact f48_20_ok hd hg h
  · refine zIT dd48_12 rfl (kNeT hc) ?_
    refine zGo_s (pc' := 20) (st' := [.int (0 : Int32)]) dd48_19 rfl ?_
    exact f48_20_ok hd hg h
