/-! PH.irpt(II)I -/
theorem dd144_0 : decode cX11_irpt 0 = .ok (.aload_n 0, 1) := by decide +kernel
theorem dd144_1 : decode cX11_irpt 1 = .ok (.getfield 28, 3) := by decide +kernel
theorem dd144_4 : decode cX11_irpt 4 = .ok (.getfield 67, 3) := by decide +kernel
theorem dd144_7 : decode cX11_irpt 7 = .ok (.ifCond .ne 6, 3) := by decide +kernel
theorem dd144_10 : decode cX11_irpt 10 = .ok (.bipush (-3), 2) := by decide +kernel
theorem dd144_12 : decode cX11_irpt 12 = .ok (.ireturn, 1) := by decide +kernel
theorem dd144_13 : decode cX11_irpt 13 = .ok (.aload_n 0, 1) := by decide +kernel
theorem dd144_14 : decode cX11_irpt 14 = .ok (.getfield 35, 3) := by decide +kernel
theorem dd144_17 : decode cX11_irpt 17 = .ok (.iconst 4, 1) := by decide +kernel
theorem dd144_18 : decode cX11_irpt 18 = .ok (.iload_n 1, 1) := by decide +kernel
theorem dd144_19 : decode cX11_irpt 19 = .ok (.invokevirtual 111, 3) := by decide +kernel
theorem dd144_22 : decode cX11_irpt 22 = .ok (.ifCond .ne 5, 3) := by decide +kernel
theorem dd144_25 : decode cX11_irpt 25 = .ok (.iconst (-1), 1) := by decide +kernel
theorem dd144_26 : decode cX11_irpt 26 = .ok (.ireturn, 1) := by decide +kernel
theorem dd144_27 : decode cX11_irpt 27 = .ok (.iload_n 2, 1) := by decide +kernel
theorem dd144_28 : decode cX11_irpt 28 = .ok (.tableswitch 83 0 2 #[28, 49, 70], 28) := by decide +kernel
theorem dd144_56 : decode cX11_irpt 56 = .ok (.aload_n 0, 1) := by decide +kernel
theorem dd144_57 : decode cX11_irpt 57 = .ok (.getfield 28, 3) := by decide +kernel
theorem dd144_60 : decode cX11_irpt 60 = .ok (.getfield 174, 3) := by decide +kernel
theorem dd144_63 : decode cX11_irpt 63 = .ok (.getfield 178, 3) := by decide +kernel
theorem dd144_66 : decode cX11_irpt 66 = .ok (.iload_n 1, 1) := by decide +kernel
theorem dd144_67 : decode cX11_irpt 67 = .ok (.baload, 1) := by decide +kernel
theorem dd144_68 : decode cX11_irpt 68 = .ok (.ifCond .eq 7, 3) := by decide +kernel
theorem dd144_71 : decode cX11_irpt 71 = .ok (.iconst 1, 1) := by decide +kernel
theorem dd144_72 : decode cX11_irpt 72 = .ok (.goto 4, 3) := by decide +kernel
theorem dd144_75 : decode cX11_irpt 75 = .ok (.iconst 0, 1) := by decide +kernel
theorem dd144_76 : decode cX11_irpt 76 = .ok (.ireturn, 1) := by decide +kernel
theorem dd144_77 : decode cX11_irpt 77 = .ok (.aload_n 0, 1) := by decide +kernel
theorem dd144_78 : decode cX11_irpt 78 = .ok (.getfield 28, 3) := by decide +kernel
theorem dd144_81 : decode cX11_irpt 81 = .ok (.getfield 174, 3) := by decide +kernel
theorem dd144_84 : decode cX11_irpt 84 = .ok (.getfield 184, 3) := by decide +kernel
theorem dd144_87 : decode cX11_irpt 87 = .ok (.iload_n 1, 1) := by decide +kernel
theorem dd144_88 : decode cX11_irpt 88 = .ok (.baload, 1) := by decide +kernel
theorem dd144_89 : decode cX11_irpt 89 = .ok (.ifCond .eq 7, 3) := by decide +kernel
theorem dd144_92 : decode cX11_irpt 92 = .ok (.iconst 1, 1) := by decide +kernel
theorem dd144_93 : decode cX11_irpt 93 = .ok (.goto 4, 3) := by decide +kernel
theorem dd144_96 : decode cX11_irpt 96 = .ok (.iconst 0, 1) := by decide +kernel
theorem dd144_97 : decode cX11_irpt 97 = .ok (.ireturn, 1) := by decide +kernel
theorem dd144_98 : decode cX11_irpt 98 = .ok (.aload_n 0, 1) := by decide +kernel
theorem dd144_99 : decode cX11_irpt 99 = .ok (.getfield 28, 3) := by decide +kernel
theorem dd144_102 : decode cX11_irpt 102 = .ok (.getfield 174, 3) := by decide +kernel
theorem dd144_105 : decode cX11_irpt 105 = .ok (.getfield 187, 3) := by decide +kernel
theorem dd144_108 : decode cX11_irpt 108 = .ok (.iload_n 1, 1) := by decide +kernel
theorem dd144_109 : decode cX11_irpt 109 = .ok (.iaload, 1) := by decide +kernel
theorem dd144_110 : decode cX11_irpt 110 = .ok (.ireturn, 1) := by decide +kernel
theorem dd144_111 : decode cX11_irpt 111 = .ok (.bipush (-2), 2) := by decide +kernel
theorem dd144_113 : decode cX11_irpt 113 = .ok (.ireturn, 1) := by decide +kernel
def f144 (n : Nat) (x1 : Int32) (x2 : Int32) (s : zσ) : Option (Int32 × zσ) :=
    if (s.1 1007 11) = (0 : Int32) then
    some ((-3 : Int32), s)
    else zrd 9 (s.2.2 1000 3) fun a1 =>
    yb1 (f134 n a1 (4 : Int32) x1 s) fun v3 u2 =>
    if v3 = (0 : Int32) then
    some ((-1 : Int32), u2)
    else if x2 = (0 : Int32) then
    if zin? x1 4 = true then
    if (u2.1 1027 (nx x1)) = (0 : Int32) then
    some ((0 : Int32), u2)
    else some ((1 : Int32), u2)
    else none
    else if x2 = (1 : Int32) then
    if zin? x1 4 = true then
    if (u2.1 1028 (nx x1)) = (0 : Int32) then
    some ((0 : Int32), u2)
    else some ((1 : Int32), u2)
    else none
    else if x2 = (2 : Int32) then
    if zin? x1 4 = true then
    some ((u2.1 1029 (nx x1)), u2)
    else none
    else some ((-2 : Int32), u2)
set_option maxRecDepth 20000 in
theorem f144_ok {n d : Nat} {x1 : Int32} {x2 : Int32} {s : zσ} {v : Int32} {s2 : zσ} (hd : 1 ≤ d) (h : f144 n x1 x2 s = some (v, s2)) {w : zσ} {fz : Bool} {L : Nat} {xs : Nat → Int32} : zGo (zX fz L xs) d q_144 (0, [(0, .ref 1000), (1, .int x1), (2, .int x2)], [], zmk s w, 0, 0) (some (.int v), zmk s2 w, 0, 0) := by
  obtain ⟨d, rfl⟩ : ∃ d0, d = d0 + 1 := ⟨d - 1, by omega⟩
  unfold f144 at h
  refine zGo_s (pc' := 1) (st' := [.ref 1000]) dd144_0 rfl ?_
  refine cGF (e := 1007) dd144_1 rfl rfl rfl rfl rfl ?_
  refine cGI dd144_4 rfl rfl rfl rfl ?_
  rcases oite h with ⟨hc, h⟩ | ⟨hc, h⟩
  · refine zUF dd144_7 (kNeF hc) ?_
    refine zGo_s (pc' := 12) (st' := [.int (-3 : Int32)]) dd144_10 rfl ?_
    obtain ⟨rfl, rfl⟩ := oret h
    exact zGo_ret dd144_12 rfl rfl
  · refine zUT dd144_7 rfl (kNeT hc) ?_
    refine zGo_s (pc' := 14) (st' := [.ref 1000]) dd144_13 rfl ?_
    obtain ⟨a1, e_a1, c_a1, h⟩ := ordd h
    refine cGR dd144_14 rfl rfl rfl rfl e_a1 ?_
    refine zGo_s (pc' := 18) (st' := [.int (4 : Int32), .ref a1]) dd144_17 rfl ?_
    refine zGo_s (pc' := 19) (st' := [.int x1, .int (4 : Int32), .ref a1]) dd144_18 rfl ?_
    obtain ⟨v3, u2, hq, h⟩ := obnd h
    refine zCV1 (As := [.int (4 : Int32), .int x1]) (rest := []) (b := a1) (q' := q_134) dd144_19 rfl rfl (rcv_c (ck9_s c_a1).1 (ck9_s c_a1).2 (by decide)) rfl rfl rfl (f134_ok (d := d) (by omega) c_a1 hq) ?_
    rcases oite h with ⟨hc, h⟩ | ⟨hc, h⟩
    · refine zUF dd144_22 (kNeF hc) ?_
      refine zGo_s (pc' := 26) (st' := [.int (-1 : Int32)]) dd144_25 rfl ?_
      obtain ⟨rfl, rfl⟩ := oret h
      exact zGo_ret dd144_26 rfl rfl
    · refine zUT dd144_22 rfl (kNeT hc) ?_
      refine zGo_s (pc' := 28) (st' := [.int x2]) dd144_27 rfl ?_
      rcases oite h with ⟨hc, h⟩ | ⟨hn0, h⟩
      · refine zGo_sw dd144_28 (o := 28) (by rw [hc]; decide +kernel) rfl ?_
        refine zGo_s (pc' := 57) (st' := [.ref 1000]) dd144_56 rfl ?_
        refine cGF (e := 1007) dd144_57 rfl rfl rfl rfl rfl ?_
        refine cGF (e := 1022) dd144_60 rfl rfl rfl rfl rfl ?_
        refine cGF (e := 1027) dd144_63 rfl rfl rfl rfl rfl ?_
        refine zGo_s (pc' := 67) (st' := [.int x1, .ref 1027]) dd144_66 rfl ?_
        obtain ⟨hi, h⟩ := ochk h
        refine cBA dd144_67 rfl rfl rfl hi ?_
        rcases oite h with ⟨hc, h⟩ | ⟨hc, h⟩
        · refine zUT dd144_68 rfl (kEqT hc) ?_
          refine zGo_s (pc' := 76) (st' := [.int (0 : Int32)]) dd144_75 rfl ?_
          obtain ⟨rfl, rfl⟩ := oret h
          exact zGo_ret dd144_76 rfl rfl
        · refine zUF dd144_68 (kEqF hc) ?_
          refine zGo_s (pc' := 72) (st' := [.int (1 : Int32)]) dd144_71 rfl ?_
          refine zGo_s (pc' := 76) (st' := [.int (1 : Int32)]) dd144_72 rfl ?_
          obtain ⟨rfl, rfl⟩ := oret h
          exact zGo_ret dd144_76 rfl rfl
      rcases oite h with ⟨hc, h⟩ | ⟨hn1, h⟩
      · refine zGo_sw dd144_28 (o := 49) (by rw [hc]; decide +kernel) rfl ?_
        refine zGo_s (pc' := 78) (st' := [.ref 1000]) dd144_77 rfl ?_
        refine cGF (e := 1007) dd144_78 rfl rfl rfl rfl rfl ?_
        refine cGF (e := 1022) dd144_81 rfl rfl rfl rfl rfl ?_
        refine cGF (e := 1028) dd144_84 rfl rfl rfl rfl rfl ?_
        refine zGo_s (pc' := 88) (st' := [.int x1, .ref 1028]) dd144_87 rfl ?_
        obtain ⟨hi, h⟩ := ochk h
        refine cBA dd144_88 rfl rfl rfl hi ?_
        rcases oite h with ⟨hc, h⟩ | ⟨hc, h⟩
        · refine zUT dd144_89 rfl (kEqT hc) ?_
          refine zGo_s (pc' := 97) (st' := [.int (0 : Int32)]) dd144_96 rfl ?_
          obtain ⟨rfl, rfl⟩ := oret h
          exact zGo_ret dd144_97 rfl rfl
        · refine zUF dd144_89 (kEqF hc) ?_
          refine zGo_s (pc' := 93) (st' := [.int (1 : Int32)]) dd144_92 rfl ?_
          refine zGo_s (pc' := 97) (st' := [.int (1 : Int32)]) dd144_93 rfl ?_
          obtain ⟨rfl, rfl⟩ := oret h
          exact zGo_ret dd144_97 rfl rfl
      rcases oite h with ⟨hc, h⟩ | ⟨hn2, h⟩
      · refine zGo_sw dd144_28 (o := 70) (by rw [hc]; decide +kernel) rfl ?_
        refine zGo_s (pc' := 99) (st' := [.ref 1000]) dd144_98 rfl ?_
        refine cGF (e := 1007) dd144_99 rfl rfl rfl rfl rfl ?_
        refine cGF (e := 1022) dd144_102 rfl rfl rfl rfl rfl ?_
        refine cGF (e := 1029) dd144_105 rfl rfl rfl rfl rfl ?_
        refine zGo_s (pc' := 109) (st' := [.int x1, .ref 1029]) dd144_108 rfl ?_
        obtain ⟨hi, h⟩ := ochk h
        refine cIA dd144_109 rfl rfl hi ?_
        obtain ⟨rfl, rfl⟩ := oret h
        exact zGo_ret dd144_110 rfl rfl
      refine zGo_sw dd144_28 (o := 83) (zto_d (by decide) (by decide) fun k hk => ?_) rfl ?_
      · have hk2 : k = 0 ∨ k = 1 ∨ k = 2 := by omega
        rcases hk2 with rfl | rfl | rfl
        · exact Or.inr hn0
        · exact Or.inr hn1
        · exact Or.inr hn2
      refine zGo_s (pc' := 113) (st' := [.int (-2 : Int32)]) dd144_111 rfl ?_
      obtain ⟨rfl, rfl⟩ := oret h
      exact zGo_ret dd144_113 rfl rfl
/-! PH.sent(II)I -/
theorem dd145_0 : decode cX11_sent 0 = .ok (.aload_n 0, 1) := by decide +kernel
theorem dd145_1 : decode cX11_sent 1 = .ok (.getfield 28, 3) := by decide +kernel
theorem dd145_4 : decode cX11_sent 4 = .ok (.getfield 67, 3) := by decide +kernel
theorem dd145_7 : decode cX11_sent 7 = .ok (.ifCond .eq 16, 3) := by decide +kernel
theorem dd145_10 : decode cX11_sent 10 = .ok (.aload_n 0, 1) := by decide +kernel
theorem dd145_11 : decode cX11_sent 11 = .ok (.getfield 35, 3) := by decide +kernel
theorem dd145_14 : decode cX11_sent 14 = .ok (.bipush 6, 2) := by decide +kernel
theorem dd145_16 : decode cX11_sent 16 = .ok (.iload_n 1, 1) := by decide +kernel
theorem dd145_17 : decode cX11_sent 17 = .ok (.invokevirtual 111, 3) := by decide +kernel
theorem dd145_20 : decode cX11_sent 20 = .ok (.ifCond .ne 5, 3) := by decide +kernel
theorem dd145_23 : decode cX11_sent 23 = .ok (.iconst 0, 1) := by decide +kernel
theorem dd145_24 : decode cX11_sent 24 = .ok (.ireturn, 1) := by decide +kernel
theorem dd145_25 : decode cX11_sent 25 = .ok (.aload_n 0, 1) := by decide +kernel
theorem dd145_26 : decode cX11_sent 26 = .ok (.getfield 28, 3) := by decide +kernel
theorem dd145_29 : decode cX11_sent 29 = .ok (.getfield 118, 3) := by decide +kernel
theorem dd145_32 : decode cX11_sent 32 = .ok (.getfield 190, 3) := by decide +kernel
theorem dd145_35 : decode cX11_sent 35 = .ok (.iload_n 1, 1) := by decide +kernel
theorem dd145_36 : decode cX11_sent 36 = .ok (.iaload, 1) := by decide +kernel
theorem dd145_37 : decode cX11_sent 37 = .ok (.istore_n 3, 1) := by decide +kernel
theorem dd145_38 : decode cX11_sent 38 = .ok (.iload_n 2, 1) := by decide +kernel
theorem dd145_39 : decode cX11_sent 39 = .ok (.iconst (-1), 1) := by decide +kernel
theorem dd145_40 : decode cX11_sent 40 = .ok (.if_icmp .ne 5, 3) := by decide +kernel
theorem dd145_43 : decode cX11_sent 43 = .ok (.iload_n 3, 1) := by decide +kernel
theorem dd145_44 : decode cX11_sent 44 = .ok (.ireturn, 1) := by decide +kernel
theorem dd145_45 : decode cX11_sent 45 = .ok (.iload_n 2, 1) := by decide +kernel
theorem dd145_46 : decode cX11_sent 46 = .ok (.ifCond .lt 28, 3) := by decide +kernel
theorem dd145_49 : decode cX11_sent 49 = .ok (.iload_n 2, 1) := by decide +kernel
theorem dd145_50 : decode cX11_sent 50 = .ok (.iload_n 3, 1) := by decide +kernel
theorem dd145_51 : decode cX11_sent 51 = .ok (.if_icmp .ge 23, 3) := by decide +kernel
theorem dd145_54 : decode cX11_sent 54 = .ok (.aload_n 0, 1) := by decide +kernel
theorem dd145_55 : decode cX11_sent 55 = .ok (.getfield 28, 3) := by decide +kernel
theorem dd145_58 : decode cX11_sent 58 = .ok (.getfield 118, 3) := by decide +kernel
theorem dd145_61 : decode cX11_sent 61 = .ok (.getfield 193, 3) := by decide +kernel
theorem dd145_64 : decode cX11_sent 64 = .ok (.iload_n 1, 1) := by decide +kernel
theorem dd145_65 : decode cX11_sent 65 = .ok (.bipush 40, 2) := by decide +kernel
theorem dd145_67 : decode cX11_sent 67 = .ok (.imul, 1) := by decide +kernel
theorem dd145_68 : decode cX11_sent 68 = .ok (.iload_n 2, 1) := by decide +kernel
theorem dd145_69 : decode cX11_sent 69 = .ok (.iadd, 1) := by decide +kernel
theorem dd145_70 : decode cX11_sent 70 = .ok (.iaload, 1) := by decide +kernel
theorem dd145_71 : decode cX11_sent 71 = .ok (.goto 4, 3) := by decide +kernel
theorem dd145_74 : decode cX11_sent 74 = .ok (.iconst 0, 1) := by decide +kernel
theorem dd145_75 : decode cX11_sent 75 = .ok (.ireturn, 1) := by decide +kernel
def f145 (n : Nat) (x1 : Int32) (x2 : Int32) (s : zσ) : Option (Int32 × zσ) :=
    if (s.1 1007 11) = (0 : Int32) then
    some ((0 : Int32), s)
    else zrd 9 (s.2.2 1000 3) fun a1 =>
    yb1 (f134 n a1 (6 : Int32) x1 s) fun v3 u2 =>
    if v3 = (0 : Int32) then
    some ((0 : Int32), u2)
    else if zin? x1 4 = true then
    zlet ((u2.1 1021 (nx x1))) fun v4 =>
    if x2 = (-1 : Int32) then
    some (v4, u2)
    else if x2 < (0 : Int32) then
    some ((0 : Int32), u2)
    else if x2 < v4 then
    if zin? ((x1 * (40 : Int32)) + x2) 160 = true then
    some ((u2.1 1020 (nx ((x1 * (40 : Int32)) + x2))), u2)
    else none
    else some ((0 : Int32), u2)
    else none
set_option maxRecDepth 20000 in
theorem f145_ok {n d : Nat} {x1 : Int32} {x2 : Int32} {s : zσ} {v : Int32} {s2 : zσ} (hd : 1 ≤ d) (h : f145 n x1 x2 s = some (v, s2)) {w : zσ} {fz : Bool} {L : Nat} {xs : Nat → Int32} : zGo (zX fz L xs) d q_145 (0, [(0, .ref 1000), (1, .int x1), (2, .int x2)], [], zmk s w, 0, 0) (some (.int v), zmk s2 w, 0, 0) := by
  obtain ⟨d, rfl⟩ : ∃ d0, d = d0 + 1 := ⟨d - 1, by omega⟩
  unfold f145 at h
  refine zGo_s (pc' := 1) (st' := [.ref 1000]) dd145_0 rfl ?_
  refine cGF (e := 1007) dd145_1 rfl rfl rfl rfl rfl ?_
  refine cGI dd145_4 rfl rfl rfl rfl ?_
  rcases oite h with ⟨hc, h⟩ | ⟨hc, h⟩
  · refine zUT dd145_7 rfl (kEqT hc) ?_
    refine zGo_s (pc' := 24) (st' := [.int (0 : Int32)]) dd145_23 rfl ?_
    obtain ⟨rfl, rfl⟩ := oret h
    exact zGo_ret dd145_24 rfl rfl
  · refine zUF dd145_7 (kEqF hc) ?_
    refine zGo_s (pc' := 11) (st' := [.ref 1000]) dd145_10 rfl ?_
    obtain ⟨a1, e_a1, c_a1, h⟩ := ordd h
    refine cGR dd145_11 rfl rfl rfl rfl e_a1 ?_
    refine zGo_s (pc' := 16) (st' := [.int (6 : Int32), .ref a1]) dd145_14 rfl ?_
    refine zGo_s (pc' := 17) (st' := [.int x1, .int (6 : Int32), .ref a1]) dd145_16 rfl ?_
    obtain ⟨v3, u2, hq, h⟩ := obnd h
    refine zCV1 (As := [.int (6 : Int32), .int x1]) (rest := []) (b := a1) (q' := q_134) dd145_17 rfl rfl (rcv_c (ck9_s c_a1).1 (ck9_s c_a1).2 (by decide)) rfl rfl rfl (f134_ok (d := d) (by omega) c_a1 hq) ?_
    rcases oite h with ⟨hc, h⟩ | ⟨hc, h⟩
    · refine zUF dd145_20 (kNeF hc) ?_
      refine zGo_s (pc' := 24) (st' := [.int (0 : Int32)]) dd145_23 rfl ?_
      obtain ⟨rfl, rfl⟩ := oret h
      exact zGo_ret dd145_24 rfl rfl
    · refine zUT dd145_20 rfl (kNeT hc) ?_
      refine zGo_s (pc' := 26) (st' := [.ref 1000]) dd145_25 rfl ?_
      refine cGF (e := 1007) dd145_26 rfl rfl rfl rfl rfl ?_
      refine cGF (e := 1014) dd145_29 rfl rfl rfl rfl rfl ?_
      refine cGF (e := 1021) dd145_32 rfl rfl rfl rfl rfl ?_
      refine zGo_s (pc' := 36) (st' := [.int x1, .ref 1021]) dd145_35 rfl ?_
      obtain ⟨hi, h⟩ := ochk h
      refine cIA dd145_36 rfl rfl hi ?_
      obtain ⟨v4, e_v4, h⟩ := olet h
      refine zGo_is1 e_v4 dd145_37 (x' := (38, [(3, .int v4), (0, .ref 1000), (1, .int x1), (2, .int x2)], [], _, _, _)) rfl ?_
      refine zGo_s (pc' := 39) (st' := [.int x2]) dd145_38 rfl ?_
      refine zGo_s (pc' := 40) (st' := [.int (-1 : Int32), .int x2]) dd145_39 rfl ?_
      rcases oite h with ⟨hc, h⟩ | ⟨hc, h⟩
      · refine zIF dd145_40 (kNeF hc) ?_
        refine zGo_s (pc' := 44) (st' := [.int v4]) dd145_43 rfl ?_
        obtain ⟨rfl, rfl⟩ := oret h
        exact zGo_ret dd145_44 rfl rfl
      · refine zIT dd145_40 rfl (kNeT hc) ?_
        refine zGo_s (pc' := 46) (st' := [.int x2]) dd145_45 rfl ?_
        rcases oite h with ⟨hc, h⟩ | ⟨hc, h⟩
        · refine zUT dd145_46 rfl (kLtT hc) ?_
          refine zGo_s (pc' := 75) (st' := [.int (0 : Int32)]) dd145_74 rfl ?_
          obtain ⟨rfl, rfl⟩ := oret h
          exact zGo_ret dd145_75 rfl rfl
        · refine zUF dd145_46 (kLtF hc) ?_
          refine zGo_s (pc' := 50) (st' := [.int x2]) dd145_49 rfl ?_
          refine zGo_s (pc' := 51) (st' := [.int v4, .int x2]) dd145_50 rfl ?_
          rcases oite h with ⟨hc, h⟩ | ⟨hc, h⟩
          · refine zIF dd145_51 (kGeF hc) ?_
            refine zGo_s (pc' := 55) (st' := [.ref 1000]) dd145_54 rfl ?_
            refine cGF (e := 1007) dd145_55 rfl rfl rfl rfl rfl ?_
            refine cGF (e := 1014) dd145_58 rfl rfl rfl rfl rfl ?_
            refine cGF (e := 1020) dd145_61 rfl rfl rfl rfl rfl ?_
            refine zGo_s (pc' := 65) (st' := [.int x1, .ref 1020]) dd145_64 rfl ?_
            refine zGo_s (pc' := 67) (st' := [.int (40 : Int32), .int x1, .ref 1020]) dd145_65 rfl ?_
            refine zGo_s (pc' := 68) (st' := [.int (x1 * (40 : Int32)), .ref 1020]) dd145_67 rfl ?_
            refine zGo_s (pc' := 69) (st' := [.int x2, .int (x1 * (40 : Int32)), .ref 1020]) dd145_68 rfl ?_
            refine zGo_s (pc' := 70) (st' := [.int ((x1 * (40 : Int32)) + x2), .ref 1020]) dd145_69 rfl ?_
            obtain ⟨hi, h⟩ := ochk h
            refine cIA dd145_70 rfl rfl hi ?_
            refine zGo_s (pc' := 75) (st' := [.int (u2.1 1020 (nx ((x1 * (40 : Int32)) + x2)))]) dd145_71 rfl ?_
            obtain ⟨rfl, rfl⟩ := oret h
            exact zGo_ret dd145_75 rfl rfl
          · refine zIT dd145_51 rfl (kGeT hc) ?_
            refine zGo_s (pc' := 75) (st' := [.int (0 : Int32)]) dd145_74 rfl ?_
            obtain ⟨rfl, rfl⟩ := oret h
            exact zGo_ret dd145_75 rfl rfl
/-! PH$Machine.waitsFor(LPH$Task;II)Z -/
theorem dd148_0 : decode cX3_waitsFor 0 = .ok (.aload_n 1, 1) := by decide +kernel
theorem dd148_1 : decode cX3_waitsFor 1 = .ok (.invokevirtual 393, 3) := by decide +kernel
theorem dd148_4 : decode cX3_waitsFor 4 = .ok (.ifCond .ne 5, 3) := by decide +kernel
theorem dd148_7 : decode cX3_waitsFor 7 = .ok (.iconst 0, 1) := by decide +kernel
theorem dd148_8 : decode cX3_waitsFor 8 = .ok (.ireturn, 1) := by decide +kernel
theorem dd148_9 : decode cX3_waitsFor 9 = .ok (.aload_n 1, 1) := by decide +kernel
theorem dd148_10 : decode cX3_waitsFor 10 = .ok (.getfield 183, 3) := by decide +kernel
theorem dd148_13 : decode cX3_waitsFor 13 = .ok (.aload_n 1, 1) := by decide +kernel
theorem dd148_14 : decode cX3_waitsFor 14 = .ok (.getfield 186, 3) := by decide +kernel
theorem dd148_17 : decode cX3_waitsFor 17 = .ok (.iaload, 1) := by decide +kernel
theorem dd148_18 : decode cX3_waitsFor 18 = .ok (.istore 4, 2) := by decide +kernel
theorem dd148_20 : decode cX3_waitsFor 20 = .ok (.aload_n 0, 1) := by decide +kernel
theorem dd148_21 : decode cX3_waitsFor 21 = .ok (.getfield 59, 3) := by decide +kernel
theorem dd148_24 : decode cX3_waitsFor 24 = .ok (.getfield 256, 3) := by decide +kernel
theorem dd148_27 : decode cX3_waitsFor 27 = .ok (.iload 4, 2) := by decide +kernel
theorem dd148_29 : decode cX3_waitsFor 29 = .ok (.iaload, 1) := by decide +kernel
theorem dd148_30 : decode cX3_waitsFor 30 = .ok (.istore 5, 2) := by decide +kernel
theorem dd148_32 : decode cX3_waitsFor 32 = .ok (.iload_n 2, 1) := by decide +kernel
theorem dd148_33 : decode cX3_waitsFor 33 = .ok (.iconst 2, 1) := by decide +kernel
theorem dd148_34 : decode cX3_waitsFor 34 = .ok (.if_icmp .ne 34, 3) := by decide +kernel
theorem dd148_37 : decode cX3_waitsFor 37 = .ok (.iload 5, 2) := by decide +kernel
theorem dd148_39 : decode cX3_waitsFor 39 = .ok (.sipush 159, 3) := by decide +kernel
theorem dd148_42 : decode cX3_waitsFor 42 = .ok (.if_icmp .ne 24, 3) := by decide +kernel
theorem dd148_45 : decode cX3_waitsFor 45 = .ok (.aload_n 0, 1) := by decide +kernel
theorem dd148_46 : decode cX3_waitsFor 46 = .ok (.getfield 59, 3) := by decide +kernel
theorem dd148_49 : decode cX3_waitsFor 49 = .ok (.getfield 253, 3) := by decide +kernel
theorem dd148_52 : decode cX3_waitsFor 52 = .ok (.iload 4, 2) := by decide +kernel
theorem dd148_54 : decode cX3_waitsFor 54 = .ok (.iaload, 1) := by decide +kernel
theorem dd148_55 : decode cX3_waitsFor 55 = .ok (.iload_n 3, 1) := by decide +kernel
theorem dd148_56 : decode cX3_waitsFor 56 = .ok (.invokestatic 434, 3) := by decide +kernel
theorem dd148_59 : decode cX3_waitsFor 59 = .ok (.ifCond .le 7, 3) := by decide +kernel
theorem dd148_62 : decode cX3_waitsFor 62 = .ok (.iconst 1, 1) := by decide +kernel
theorem dd148_63 : decode cX3_waitsFor 63 = .ok (.goto 4, 3) := by decide +kernel
theorem dd148_66 : decode cX3_waitsFor 66 = .ok (.iconst 0, 1) := by decide +kernel
theorem dd148_67 : decode cX3_waitsFor 67 = .ok (.ireturn, 1) := by decide +kernel
theorem dd148_68 : decode cX3_waitsFor 68 = .ok (.iload_n 2, 1) := by decide +kernel
theorem dd148_69 : decode cX3_waitsFor 69 = .ok (.iconst 5, 1) := by decide +kernel
theorem dd148_70 : decode cX3_waitsFor 70 = .ok (.if_icmp .ne 19, 3) := by decide +kernel
theorem dd148_73 : decode cX3_waitsFor 73 = .ok (.iload 5, 2) := by decide +kernel
theorem dd148_75 : decode cX3_waitsFor 75 = .ok (.sipush 165, 3) := by decide +kernel
theorem dd148_78 : decode cX3_waitsFor 78 = .ok (.if_icmp .ne 7, 3) := by decide +kernel
theorem dd148_81 : decode cX3_waitsFor 81 = .ok (.iconst 1, 1) := by decide +kernel
theorem dd148_82 : decode cX3_waitsFor 82 = .ok (.goto 28, 3) := by decide +kernel
theorem dd148_85 : decode cX3_waitsFor 85 = .ok (.iconst 0, 1) := by decide +kernel
theorem dd148_86 : decode cX3_waitsFor 86 = .ok (.goto 24, 3) := by decide +kernel
theorem dd148_89 : decode cX3_waitsFor 89 = .ok (.iload 5, 2) := by decide +kernel
theorem dd148_91 : decode cX3_waitsFor 91 = .ok (.sipush 161, 3) := by decide +kernel
theorem dd148_94 : decode cX3_waitsFor 94 = .ok (.if_icmp .eq 11, 3) := by decide +kernel
theorem dd148_97 : decode cX3_waitsFor 97 = .ok (.iload 5, 2) := by decide +kernel
theorem dd148_99 : decode cX3_waitsFor 99 = .ok (.sipush 163, 3) := by decide +kernel
theorem dd148_102 : decode cX3_waitsFor 102 = .ok (.if_icmp .ne 7, 3) := by decide +kernel
theorem dd148_105 : decode cX3_waitsFor 105 = .ok (.iconst 1, 1) := by decide +kernel
theorem dd148_106 : decode cX3_waitsFor 106 = .ok (.goto 4, 3) := by decide +kernel
theorem dd148_109 : decode cX3_waitsFor 109 = .ok (.iconst 0, 1) := by decide +kernel
theorem dd148_110 : decode cX3_waitsFor 110 = .ok (.istore 6, 2) := by decide +kernel
theorem dd148_112 : decode cX3_waitsFor 112 = .ok (.iload 6, 2) := by decide +kernel
theorem dd148_114 : decode cX3_waitsFor 114 = .ok (.ifCond .eq 21, 3) := by decide +kernel
theorem dd148_117 : decode cX3_waitsFor 117 = .ok (.aload_n 0, 1) := by decide +kernel
theorem dd148_118 : decode cX3_waitsFor 118 = .ok (.getfield 59, 3) := by decide +kernel
theorem dd148_121 : decode cX3_waitsFor 121 = .ok (.getfield 253, 3) := by decide +kernel
theorem dd148_124 : decode cX3_waitsFor 124 = .ok (.iload 4, 2) := by decide +kernel
theorem dd148_126 : decode cX3_waitsFor 126 = .ok (.iaload, 1) := by decide +kernel
theorem dd148_127 : decode cX3_waitsFor 127 = .ok (.iload_n 3, 1) := by decide +kernel
theorem dd148_128 : decode cX3_waitsFor 128 = .ok (.if_icmp .ne 7, 3) := by decide +kernel
theorem dd148_131 : decode cX3_waitsFor 131 = .ok (.iconst 1, 1) := by decide +kernel
theorem dd148_132 : decode cX3_waitsFor 132 = .ok (.goto 4, 3) := by decide +kernel
theorem dd148_135 : decode cX3_waitsFor 135 = .ok (.iconst 0, 1) := by decide +kernel
theorem dd148_136 : decode cX3_waitsFor 136 = .ok (.ireturn, 1) := by decide +kernel
def f148_110 (n : Nat) (x3 : Int32) (x4 : Int32) (y0 : Int32) (s : zσ) : Option (Int32 × zσ) :=
    if y0 = (0 : Int32) then
    some ((0 : Int32), s)
    else zrd 6 (s.2.2 1007 9) fun a1 =>
    if zin? x4 200 = true then
    if (s.1 (a1 + 2) (nx x4)) = x3 then
    some ((1 : Int32), s)
    else some ((0 : Int32), s)
    else none
set_option maxRecDepth 20000 in
theorem f148_110_ok {n d : Nat} {x3 : Int32} {x4 : Int32} {y0 : Int32} {s : zσ} {v : Int32} {s2 : zσ} (hd : 1 ≤ d) (h : f148_110 n x3 x4 y0 s = some (v, s2)) {w : zσ} {fz : Bool} {L : Nat} {xs : Nat → Int32} : zGo (zX fz L xs) d q_148 (110, [(0, .ref 1007), (3, .int x3), (4, .int x4)], [.int y0], zmk s w, 0, 0) (some (.int v), zmk s2 w, 0, 0) := by
  obtain ⟨d, rfl⟩ : ∃ d0, d = d0 + 1 := ⟨d - 1, by omega⟩
  unfold f148_110 at h
  refine zGo_s (pc' := 112) (st' := []) (lv' := [(6, .int y0), (0, .ref 1007), (3, .int x3), (4, .int x4)]) dd148_110 rfl ?_
  refine zGo_s (pc' := 114) (st' := [.int y0]) dd148_112 rfl ?_
  rcases oite h with ⟨hc, h⟩ | ⟨hc, h⟩
  · refine zUT dd148_114 rfl (kEqT hc) ?_
    refine zGo_s (pc' := 136) (st' := [.int (0 : Int32)]) dd148_135 rfl ?_
    obtain ⟨rfl, rfl⟩ := oret h
    exact zGo_ret dd148_136 rfl rfl
  · refine zUF dd148_114 (kEqF hc) ?_
    refine zGo_s (pc' := 118) (st' := [.ref 1007]) dd148_117 rfl ?_
    obtain ⟨a1, e_a1, c_a1, h⟩ := ordd h
    refine cGR dd148_118 rfl rfl rfl rfl e_a1 ?_
    refine cGF (e := (a1 + 2)) dd148_121 rfl (ck6_s c_a1).1 (ck6_s c_a1).2 rfl (cf6_1 c_a1).1 ?_
    refine zGo_s (pc' := 126) (st' := [.int x4, .ref (a1 + 2)]) dd148_124 rfl ?_
    obtain ⟨hi, h⟩ := ochk h
    refine cIA dd148_126 (cf6_1 c_a1).2.1 (cf6_1 c_a1).2.2 hi ?_
    refine zGo_s (pc' := 128) (st' := [.int x3, .int (s.1 (a1 + 2) (nx x4))]) dd148_127 rfl ?_
    rcases oite h with ⟨hc, h⟩ | ⟨hc, h⟩
    · refine zIF dd148_128 (kNeF hc) ?_
      refine zGo_s (pc' := 132) (st' := [.int (1 : Int32)]) dd148_131 rfl ?_
      refine zGo_s (pc' := 136) (st' := [.int (1 : Int32)]) dd148_132 rfl ?_
      obtain ⟨rfl, rfl⟩ := oret h
      exact zGo_ret dd148_136 rfl rfl
    · refine zIT dd148_128 rfl (kNeT hc) ?_
      refine zGo_s (pc' := 136) (st' := [.int (0 : Int32)]) dd148_135 rfl ?_
      obtain ⟨rfl, rfl⟩ := oret h
      exact zGo_ret dd148_136 rfl rfl
def f148_105 (n : Nat) (x3 : Int32) (x4 : Int32) (s : zσ) : Option (Int32 × zσ) :=
    f148_110 n x3 x4 (1 : Int32) s
set_option maxRecDepth 20000 in
theorem f148_105_ok {n d : Nat} {x3 : Int32} {x4 : Int32} {s : zσ} {v : Int32} {s2 : zσ} (hd : 1 ≤ d) (h : f148_105 n x3 x4 s = some (v, s2)) {w : zσ} {fz : Bool} {L : Nat} {xs : Nat → Int32} : zGo (zX fz L xs) d q_148 (105, [(0, .ref 1007), (3, .int x3), (4, .int x4)], [], zmk s w, 0, 0) (some (.int v), zmk s2 w, 0, 0) := by
  obtain ⟨d, rfl⟩ : ∃ d0, d = d0 + 1 := ⟨d - 1, by omega⟩
  unfold f148_105 at h
  refine zGo_s (pc' := 106) (st' := [.int (1 : Int32)]) dd148_105 rfl ?_
  refine zGo_s (pc' := 110) (st' := [.int (1 : Int32)]) dd148_106 rfl ?_
  exact f148_110_ok hd h
def f148 (n : Nat) (x1 : Nat) (x2 : Int32) (x3 : Int32) (s : zσ) : Option (Int32 × zσ) :=
    yb1 (f112 n x1 s) fun v2 u1 =>
    if v2 = (0 : Int32) then
    some ((0 : Int32), u1)
    else if zin? (u1.1 x1 10) 9 = true then
    zlet ((u1.1 (x1 + 1) (nx (u1.1 x1 10)))) fun v3 =>
    zrd 6 (u1.2.2 1007 9) fun a4 =>
    if zin? v3 200 = true then
    zlet ((u1.1 (a4 + 1) (nx v3))) fun v5 =>
    if x2 = (2 : Int32) then
    if v5 = (159 : Int32) then
    zrd 6 (u1.2.2 1007 9) fun a6 =>
    if zin? v3 200 = true then
    yb1 (f109 n (u1.1 (a6 + 2) (nx v3)) x3 u1) fun v8 u7 =>
    if (0 : Int32) < v8 then
    some ((1 : Int32), u7)
    else some ((0 : Int32), u7)
    else none
    else some ((0 : Int32), u1)
    else if x2 = (5 : Int32) then
    if v5 = (165 : Int32) then
    f148_110 n x3 v3 (1 : Int32) u1
    else f148_110 n x3 v3 (0 : Int32) u1
    else if v5 = (161 : Int32) then
    f148_105 n x3 v3 u1
    else if v5 = (163 : Int32) then
    f148_105 n x3 v3 u1
    else f148_110 n x3 v3 (0 : Int32) u1
    else none
    else none
set_option maxRecDepth 20000 in
theorem f148_ok {n d : Nat} {x1 : Nat} {x2 : Int32} {x3 : Int32} {s : zσ} {v : Int32} {s2 : zσ} (hd : 1 ≤ d) (hx1 : zck 8 x1 = true) (h : f148 n x1 x2 x3 s = some (v, s2)) {w : zσ} {fz : Bool} {L : Nat} {xs : Nat → Int32} : zGo (zX fz L xs) d q_148 (0, [(0, .ref 1007), (1, .ref x1), (2, .int x2), (3, .int x3)], [], zmk s w, 0, 0) (some (.int v), zmk s2 w, 0, 0) := by
  obtain ⟨d, rfl⟩ : ∃ d0, d = d0 + 1 := ⟨d - 1, by omega⟩
  unfold f148 at h
  refine zGo_s (pc' := 1) (st' := [.ref x1]) dd148_0 rfl ?_
  obtain ⟨v2, u1, hq, h⟩ := obnd h
  refine zCV1 (As := []) (rest := []) (b := x1) (q' := q_112) dd148_1 rfl rfl (rcv_c (ck8_s hx1).1 (ck8_s hx1).2 (by decide)) rfl rfl rfl (f112_ok (d := d) (by omega) hx1 hq) ?_
  rcases oite h with ⟨hc, h⟩ | ⟨hc, h⟩
  · refine zUF dd148_4 (kNeF hc) ?_
    refine zGo_s (pc' := 8) (st' := [.int (0 : Int32)]) dd148_7 rfl ?_
    obtain ⟨rfl, rfl⟩ := oret h
    exact zGo_ret dd148_8 rfl rfl
  · refine zUT dd148_4 rfl (kNeT hc) ?_
    refine zGo_s (pc' := 10) (st' := [.ref x1]) dd148_9 rfl ?_
    refine cGF (e := (x1 + 1)) dd148_10 rfl (ck8_s hx1).1 (ck8_s hx1).2 rfl (cf8_1 hx1).1 ?_
    refine zGo_s (pc' := 14) (st' := [.ref x1, .ref (x1 + 1)]) dd148_13 rfl ?_
    refine cGI dd148_14 rfl (ck8_s hx1).1 (ck8_s hx1).2 rfl ?_
    obtain ⟨hi, h⟩ := ochk h
    refine cIA dd148_17 (cf8_1 hx1).2.1 (cf8_1 hx1).2.2 hi ?_
    obtain ⟨v3, e_v3, h⟩ := olet h
    refine zGo_is1 e_v3 dd148_18 (x' := (20, [(4, .int v3), (0, .ref 1007), (1, .ref x1), (2, .int x2), (3, .int x3)], [], _, _, _)) rfl ?_
    refine zGo_s (pc' := 21) (st' := [.ref 1007]) dd148_20 rfl ?_
    obtain ⟨a4, e_a4, c_a4, h⟩ := ordd h
    refine cGR dd148_21 rfl rfl rfl rfl e_a4 ?_
    refine cGF (e := (a4 + 1)) dd148_24 rfl (ck6_s c_a4).1 (ck6_s c_a4).2 rfl (cf6_0 c_a4).1 ?_
    refine zGo_s (pc' := 29) (st' := [.int v3, .ref (a4 + 1)]) dd148_27 rfl ?_
    obtain ⟨hi, h⟩ := ochk h
    refine cIA dd148_29 (cf6_0 c_a4).2.1 (cf6_0 c_a4).2.2 hi ?_
    obtain ⟨v5, e_v5, h⟩ := olet h
    refine zGo_is1 e_v5 dd148_30 (x' := (32, [(5, .int v5), (4, .int v3), (0, .ref 1007), (1, .ref x1), (2, .int x2), (3, .int x3)], [], _, _, _)) rfl ?_
    refine zGo_s (pc' := 33) (st' := [.int x2]) dd148_32 rfl ?_
    refine zGo_s (pc' := 34) (st' := [.int (2 : Int32), .int x2]) dd148_33 rfl ?_
    rcases oite h with ⟨hc, h⟩ | ⟨hc, h⟩
    · refine zIF dd148_34 (kNeF hc) ?_
      refine zGo_s (pc' := 39) (st' := [.int v5]) dd148_37 rfl ?_
      refine zGo_s (pc' := 42) (st' := [.int (159 : Int32), .int v5]) dd148_39 rfl ?_
      rcases oite h with ⟨hc, h⟩ | ⟨hc, h⟩
      · refine zIF dd148_42 (kNeF hc) ?_
        refine zGo_s (pc' := 46) (st' := [.ref 1007]) dd148_45 rfl ?_
        obtain ⟨a6, e_a6, c_a6, h⟩ := ordd h
        refine cGR dd148_46 rfl rfl rfl rfl e_a6 ?_
        refine cGF (e := (a6 + 2)) dd148_49 rfl (ck6_s c_a6).1 (ck6_s c_a6).2 rfl (cf6_1 c_a6).1 ?_
        refine zGo_s (pc' := 54) (st' := [.int v3, .ref (a6 + 2)]) dd148_52 rfl ?_
        obtain ⟨hi, h⟩ := ochk h
        refine cIA dd148_54 (cf6_1 c_a6).2.1 (cf6_1 c_a6).2.2 hi ?_
        refine zGo_s (pc' := 56) (st' := [.int x3, .int (u1.1 (a6 + 2) (nx v3))]) dd148_55 rfl ?_
        obtain ⟨v8, u7, hq, h⟩ := obnd h
        refine zCS1 (As := [.int (u1.1 (a6 + 2) (nx v3)), .int x3]) (rest := []) (q' := q_109) dd148_56 rfl rfl rfl rfl rfl (f109_ok (d := d) (by omega)  hq) ?_
        rcases oite h with ⟨hc, h⟩ | ⟨hc, h⟩
        · refine zUF dd148_59 (kLeF hc) ?_
          refine zGo_s (pc' := 63) (st' := [.int (1 : Int32)]) dd148_62 rfl ?_
          refine zGo_s (pc' := 67) (st' := [.int (1 : Int32)]) dd148_63 rfl ?_
          obtain ⟨rfl, rfl⟩ := oret h
          exact zGo_ret dd148_67 rfl rfl
        · refine zUT dd148_59 rfl (kLeT hc) ?_
          refine zGo_s (pc' := 67) (st' := [.int (0 : Int32)]) dd148_66 rfl ?_
          obtain ⟨rfl, rfl⟩ := oret h
          exact zGo_ret dd148_67 rfl rfl
      · refine zIT dd148_42 rfl (kNeT hc) ?_
        refine zGo_s (pc' := 67) (st' := [.int (0 : Int32)]) dd148_66 rfl ?_
        obtain ⟨rfl, rfl⟩ := oret h
        exact zGo_ret dd148_67 rfl rfl
    · refine zIT dd148_34 rfl (kNeT hc) ?_
      refine zGo_s (pc' := 69) (st' := [.int x2]) dd148_68 rfl ?_
      refine zGo_s (pc' := 70) (st' := [.int (5 : Int32), .int x2]) dd148_69 rfl ?_
      rcases oite h with ⟨hc, h⟩ | ⟨hc, h⟩
      · refine zIF dd148_70 (kNeF hc) ?_
        refine zGo_s (pc' := 75) (st' := [.int v5]) dd148_73 rfl ?_
        refine zGo_s (pc' := 78) (st' := [.int (165 : Int32), .int v5]) dd148_75 rfl ?_
        rcases oite h with ⟨hc, h⟩ | ⟨hc, h⟩
        · refine zIF dd148_78 (kNeF hc) ?_
          refine zGo_s (pc' := 82) (st' := [.int (1 : Int32)]) dd148_81 rfl ?_
          refine zGo_s (pc' := 110) (st' := [.int (1 : Int32)]) dd148_82 rfl ?_
          exact zGo_lv (lv := [(0, .ref 1007), (3, .int x3), (4, .int v3)]) ⟨by simp, by simp, by simp⟩ (f148_110_ok hd h)
        · refine zIT dd148_78 rfl (kNeT hc) ?_
          refine zGo_s (pc' := 86) (st' := [.int (0 : Int32)]) dd148_85 rfl ?_
          refine zGo_s (pc' := 110) (st' := [.int (0 : Int32)]) dd148_86 rfl ?_
          exact zGo_lv (lv := [(0, .ref 1007), (3, .int x3), (4, .int v3)]) ⟨by simp, by simp, by simp⟩ (f148_110_ok hd h)
      · refine zIT dd148_70 rfl (kNeT hc) ?_
        refine zGo_s (pc' := 91) (st' := [.int v5]) dd148_89 rfl ?_
        refine zGo_s (pc' := 94) (st' := [.int (161 : Int32), .int v5]) dd148_91 rfl ?_
        rcases oite h with ⟨hc, h⟩ | ⟨hc, h⟩
        · refine zIT dd148_94 rfl (kEqT hc) ?_
          exact zGo_lv (lv := [(0, .ref 1007), (3, .int x3), (4, .int v3)]) ⟨by simp, by simp, by simp⟩ (f148_105_ok hd h)
        · refine zIF dd148_94 (kEqF hc) ?_
          refine zGo_s (pc' := 99) (st' := [.int v5]) dd148_97 rfl ?_
          refine zGo_s (pc' := 102) (st' := [.int (163 : Int32), .int v5]) dd148_99 rfl ?_
          rcases oite h with ⟨hc, h⟩ | ⟨hc, h⟩
          · refine zIF dd148_102 (kNeF hc) ?_
            exact zGo_lv (lv := [(0, .ref 1007), (3, .int x3), (4, .int v3)]) ⟨by simp, by simp, by simp⟩ (f148_105_ok hd h)
          · refine zIT dd148_102 rfl (kNeT hc) ?_
            refine zGo_s (pc' := 110) (st' := [.int (0 : Int32)]) dd148_109 rfl ?_
            exact zGo_lv (lv := [(0, .ref 1007), (3, .int x3), (4, .int v3)]) ⟨by simp, by simp, by simp⟩ (f148_110_ok hd h)
/-! PH$Machine.waiter(III)I -/
theorem dd147_0 : decode cX3_waiter 0 = .ok (.iconst 0, 1) := by decide +kernel
theorem dd147_1 : decode cX3_waiter 1 = .ok (.istore 4, 2) := by decide +kernel
theorem dd147_3 : decode cX3_waiter 3 = .ok (.iload 4, 2) := by decide +kernel
theorem dd147_5 : decode cX3_waiter 5 = .ok (.aload_n 0, 1) := by decide +kernel
theorem dd147_6 : decode cX3_waiter 6 = .ok (.getfield 71, 3) := by decide +kernel
theorem dd147_9 : decode cX3_waiter 9 = .ok (.if_icmp .ge 97, 3) := by decide +kernel
theorem dd147_12 : decode cX3_waiter 12 = .ok (.aload_n 0, 1) := by decide +kernel
theorem dd147_13 : decode cX3_waiter 13 = .ok (.aload_n 0, 1) := by decide +kernel
theorem dd147_14 : decode cX3_waiter 14 = .ok (.getfield 11, 3) := by decide +kernel
theorem dd147_17 : decode cX3_waiter 17 = .ok (.iload 4, 2) := by decide +kernel
theorem dd147_19 : decode cX3_waiter 19 = .ok (.aaload, 1) := by decide +kernel
theorem dd147_20 : decode cX3_waiter 20 = .ok (.iload_n 1, 1) := by decide +kernel
theorem dd147_21 : decode cX3_waiter 21 = .ok (.iload_n 2, 1) := by decide +kernel
theorem dd147_22 : decode cX3_waiter 22 = .ok (.invokevirtual 430, 3) := by decide +kernel
theorem dd147_25 : decode cX3_waiter 25 = .ok (.ifCond .ne 6, 3) := by decide +kernel
theorem dd147_28 : decode cX3_waiter 28 = .ok (.goto 72, 3) := by decide +kernel
theorem dd147_31 : decode cX3_waiter 31 = .ok (.iconst 0, 1) := by decide +kernel
theorem dd147_32 : decode cX3_waiter 32 = .ok (.istore 5, 2) := by decide +kernel
theorem dd147_34 : decode cX3_waiter 34 = .ok (.iconst 0, 1) := by decide +kernel
theorem dd147_35 : decode cX3_waiter 35 = .ok (.istore 6, 2) := by decide +kernel
theorem dd147_37 : decode cX3_waiter 37 = .ok (.iload 6, 2) := by decide +kernel
theorem dd147_39 : decode cX3_waiter 39 = .ok (.aload_n 0, 1) := by decide +kernel
theorem dd147_40 : decode cX3_waiter 40 = .ok (.getfield 71, 3) := by decide +kernel
theorem dd147_43 : decode cX3_waiter 43 = .ok (.if_icmp .ge 48, 3) := by decide +kernel
theorem dd147_46 : decode cX3_waiter 46 = .ok (.aload_n 0, 1) := by decide +kernel
theorem dd147_47 : decode cX3_waiter 47 = .ok (.aload_n 0, 1) := by decide +kernel
theorem dd147_48 : decode cX3_waiter 48 = .ok (.getfield 11, 3) := by decide +kernel
theorem dd147_51 : decode cX3_waiter 51 = .ok (.iload 6, 2) := by decide +kernel
theorem dd147_53 : decode cX3_waiter 53 = .ok (.aaload, 1) := by decide +kernel
theorem dd147_54 : decode cX3_waiter 54 = .ok (.iload_n 1, 1) := by decide +kernel
theorem dd147_55 : decode cX3_waiter 55 = .ok (.iload_n 2, 1) := by decide +kernel
theorem dd147_56 : decode cX3_waiter 56 = .ok (.invokevirtual 430, 3) := by decide +kernel
theorem dd147_59 : decode cX3_waiter 59 = .ok (.ifCond .eq 26, 3) := by decide +kernel
theorem dd147_62 : decode cX3_waiter 62 = .ok (.aload_n 0, 1) := by decide +kernel
theorem dd147_63 : decode cX3_waiter 63 = .ok (.getfield 11, 3) := by decide +kernel
theorem dd147_66 : decode cX3_waiter 66 = .ok (.iload 6, 2) := by decide +kernel
theorem dd147_68 : decode cX3_waiter 68 = .ok (.aaload, 1) := by decide +kernel
theorem dd147_69 : decode cX3_waiter 69 = .ok (.aload_n 0, 1) := by decide +kernel
theorem dd147_70 : decode cX3_waiter 70 = .ok (.getfield 11, 3) := by decide +kernel
theorem dd147_73 : decode cX3_waiter 73 = .ok (.iload 4, 2) := by decide +kernel
theorem dd147_75 : decode cX3_waiter 75 = .ok (.aaload, 1) := by decide +kernel
theorem dd147_76 : decode cX3_waiter 76 = .ok (.invokestatic 397, 3) := by decide +kernel
theorem dd147_79 : decode cX3_waiter 79 = .ok (.ifCond .eq 6, 3) := by decide +kernel
theorem dd147_82 : decode cX3_waiter 82 = .ok (.iinc 5 1, 3) := by decide +kernel
theorem dd147_85 : decode cX3_waiter 85 = .ok (.iinc 6 1, 3) := by decide +kernel
theorem dd147_88 : decode cX3_waiter 88 = .ok (.goto (-51), 3) := by decide +kernel
theorem dd147_91 : decode cX3_waiter 91 = .ok (.iload 5, 2) := by decide +kernel
theorem dd147_93 : decode cX3_waiter 93 = .ok (.iload_n 3, 1) := by decide +kernel
theorem dd147_94 : decode cX3_waiter 94 = .ok (.if_icmp .ne 6, 3) := by decide +kernel
theorem dd147_97 : decode cX3_waiter 97 = .ok (.iload 4, 2) := by decide +kernel
theorem dd147_99 : decode cX3_waiter 99 = .ok (.ireturn, 1) := by decide +kernel
theorem dd147_100 : decode cX3_waiter 100 = .ok (.iinc 4 1, 3) := by decide +kernel
theorem dd147_103 : decode cX3_waiter 103 = .ok (.goto (-100), 3) := by decide +kernel
theorem dd147_106 : decode cX3_waiter 106 = .ok (.iconst (-1), 1) := by decide +kernel
theorem dd147_107 : decode cX3_waiter 107 = .ok (.ireturn, 1) := by decide +kernel
def f147_100 (n : Nat) (r3 : Int32 → Int32 → Int32 → Int32 → zσ → Option (Int32 × zσ)) (x1 : Int32) (x2 : Int32) (x3 : Int32) (x4 : Int32) (s : zσ) : Option (Int32 × zσ) :=
    r3 x1 x2 x3 (x4 + (1 : Int32)) s
set_option maxRecDepth 20000 in
theorem f147_100_ok {n d : Nat} {r3 : Int32 → Int32 → Int32 → Int32 → zσ → Option (Int32 × zσ)} {x1 : Int32} {x2 : Int32} {x3 : Int32} {x4 : Int32} {s : zσ} {v : Int32} {s2 : zσ} (hd : 2 ≤ d) (hr3 : ∀ (x1 : Int32) (x2 : Int32) (x3 : Int32) (x4 : Int32) (s : zσ) (v : Int32) (s2 : zσ), r3 x1 x2 x3 x4 s = some (v, s2) → ∀ {w : zσ} {fz : Bool} {L : Nat} {xs : Nat → Int32}, zGo (zX fz L xs) d q_147 (3, [(0, .ref 1007), (1, .int x1), (2, .int x2), (3, .int x3), (4, .int x4)], [], zmk s w, 0, 0) (some (.int v), zmk s2 w, 0, 0)) (h : f147_100 n r3 x1 x2 x3 x4 s = some (v, s2)) {w : zσ} {fz : Bool} {L : Nat} {xs : Nat → Int32} : zGo (zX fz L xs) d q_147 (100, [(0, .ref 1007), (1, .int x1), (2, .int x2), (3, .int x3), (4, .int x4)], [], zmk s w, 0, 0) (some (.int v), zmk s2 w, 0, 0) := by
  obtain ⟨d, rfl⟩ : ∃ d0, d = d0 + 1 := ⟨d - 1, by omega⟩
  unfold f147_100 at h
  refine zGo_s (pc' := 103) (st' := []) (lv' := [(4, .int (x4 + (1 : Int32))), (0, .ref 1007), (1, .int x1), (2, .int x2), (3, .int x3)]) dd147_100 rfl ?_
  refine zGo_s (pc' := 3) (st' := []) dd147_103 rfl ?_
  exact zGo_lv (lv := [(0, .ref 1007), (1, .int x1), (2, .int x2), (3, .int x3), (4, .int (x4 + (1 : Int32)))]) ⟨by simp, by simp, by simp⟩ (hr3 _ _ _ _ _ _ _ h)
def f147_85 (n : Nat) (r3 : Int32 → Int32 → Int32 → Int32 → zσ → Option (Int32 × zσ)) (r37 : Int32 → Int32 → Int32 → Int32 → Int32 → Int32 → zσ → Option (Int32 × zσ)) (x1 : Int32) (x2 : Int32) (x3 : Int32) (x4 : Int32) (x5 : Int32) (x6 : Int32) (s : zσ) : Option (Int32 × zσ) :=
    r37 x1 x2 x3 x4 x5 (x6 + (1 : Int32)) s
set_option maxRecDepth 20000 in
theorem f147_85_ok {n d : Nat} {r3 : Int32 → Int32 → Int32 → Int32 → zσ → Option (Int32 × zσ)} {r37 : Int32 → Int32 → Int32 → Int32 → Int32 → Int32 → zσ → Option (Int32 × zσ)} {x1 : Int32} {x2 : Int32} {x3 : Int32} {x4 : Int32} {x5 : Int32} {x6 : Int32} {s : zσ} {v : Int32} {s2 : zσ} (hd : 2 ≤ d) (hr3 : ∀ (x1 : Int32) (x2 : Int32) (x3 : Int32) (x4 : Int32) (s : zσ) (v : Int32) (s2 : zσ), r3 x1 x2 x3 x4 s = some (v, s2) → ∀ {w : zσ} {fz : Bool} {L : Nat} {xs : Nat → Int32}, zGo (zX fz L xs) d q_147 (3, [(0, .ref 1007), (1, .int x1), (2, .int x2), (3, .int x3), (4, .int x4)], [], zmk s w, 0, 0) (some (.int v), zmk s2 w, 0, 0)) (hr37 : ∀ (x1 : Int32) (x2 : Int32) (x3 : Int32) (x4 : Int32) (x5 : Int32) (x6 : Int32) (s : zσ) (v : Int32) (s2 : zσ), r37 x1 x2 x3 x4 x5 x6 s = some (v, s2) → ∀ {w : zσ} {fz : Bool} {L : Nat} {xs : Nat → Int32}, zGo (zX fz L xs) d q_147 (37, [(0, .ref 1007), (1, .int x1), (2, .int x2), (3, .int x3), (4, .int x4), (5, .int x5), (6, .int x6)], [], zmk s w, 0, 0) (some (.int v), zmk s2 w, 0, 0)) (h : f147_85 n r3 r37 x1 x2 x3 x4 x5 x6 s = some (v, s2)) {w : zσ} {fz : Bool} {L : Nat} {xs : Nat → Int32} : zGo (zX fz L xs) d q_147 (85, [(0, .ref 1007), (1, .int x1), (2, .int x2), (3, .int x3), (4, .int x4), (5, .int x5), (6, .int x6)], [], zmk s w, 0, 0) (some (.int v), zmk s2 w, 0, 0) := by
  obtain ⟨d, rfl⟩ : ∃ d0, d = d0 + 1 := ⟨d - 1, by omega⟩
  unfold f147_85 at h
  refine zGo_s (pc' := 88) (st' := []) (lv' := [(6, .int (x6 + (1 : Int32))), (0, .ref 1007), (1, .int x1), (2, .int x2), (3, .int x3), (4, .int x4), (5, .int x5)]) dd147_85 rfl ?_
  refine zGo_s (pc' := 37) (st' := []) dd147_88 rfl ?_
  exact zGo_lv (lv := [(0, .ref 1007), (1, .int x1), (2, .int x2), (3, .int x3), (4, .int x4), (5, .int x5), (6, .int (x6 + (1 : Int32)))]) ⟨by simp, by simp, by simp⟩ (hr37 _ _ _ _ _ _ _ _ _ h)
def f147_37 (n : Nat) (r3 : Int32 → Int32 → Int32 → Int32 → zσ → Option (Int32 × zσ)) : Nat → Int32 → Int32 → Int32 → Int32 → Int32 → Int32 → zσ → Option (Int32 × zσ)
  | 0, _, _, _, _, _, _, _ => none
  | j + 1, x1, x2, x3, x4, x5, x6, s =>
    if x6 < (s.1 1007 12) then
    if zin? x6 8 = true then
    zrd 8 (s.2.2 1008 (nx x6)) fun a1 =>
    yb1 (f148 n a1 x1 x2 s) fun v3 u2 =>
    if v3 = (0 : Int32) then
    f147_85 n r3 (f147_37 n r3 j) x1 x2 x3 x4 x5 x6 u2
    else if zin? x6 8 = true then
    zrd 8 (u2.2.2 1008 (nx x6)) fun a4 =>
    if zin? x4 8 = true then
    zrd 8 (u2.2.2 1008 (nx x4)) fun a5 =>
    yb1 (f113 n a4 a5 u2) fun v7 u6 =>
    if v7 = (0 : Int32) then
    f147_85 n r3 (f147_37 n r3 j) x1 x2 x3 x4 x5 x6 u6
    else f147_85 n r3 (f147_37 n r3 j) x1 x2 x3 x4 (x5 + (1 : Int32)) x6 u6
    else none
    else none
    else none
    else if x5 = x3 then
    some (x4, s)
    else f147_100 n r3 x1 x2 x3 x4 s
set_option maxRecDepth 20000 in
theorem f147_37_ok {n d : Nat} {r3 : Int32 → Int32 → Int32 → Int32 → zσ → Option (Int32 × zσ)} (hd : 2 ≤ d) (hr3 : ∀ (x1 : Int32) (x2 : Int32) (x3 : Int32) (x4 : Int32) (s : zσ) (v : Int32) (s2 : zσ), r3 x1 x2 x3 x4 s = some (v, s2) → ∀ {w : zσ} {fz : Bool} {L : Nat} {xs : Nat → Int32}, zGo (zX fz L xs) d q_147 (3, [(0, .ref 1007), (1, .int x1), (2, .int x2), (3, .int x3), (4, .int x4)], [], zmk s w, 0, 0) (some (.int v), zmk s2 w, 0, 0)) : ∀ (j : Nat) (x1 : Int32) (x2 : Int32) (x3 : Int32) (x4 : Int32) (x5 : Int32) (x6 : Int32) (s : zσ) (v : Int32) (s2 : zσ), f147_37 n r3 j x1 x2 x3 x4 x5 x6 s = some (v, s2) → ∀ {w : zσ} {fz : Bool} {L : Nat} {xs : Nat → Int32}, zGo (zX fz L xs) d q_147 (37, [(0, .ref 1007), (1, .int x1), (2, .int x2), (3, .int x3), (4, .int x4), (5, .int x5), (6, .int x6)], [], zmk s w, 0, 0) (some (.int v), zmk s2 w, 0, 0) := by
  obtain ⟨d, rfl⟩ : ∃ d0, d = d0 + 1 := ⟨d - 1, by omega⟩
  intro j
  induction j with
  | zero => intro x1 x2 x3 x4 x5 x6 s v s2 h; cases h
  | succ j ih =>
    intro x1 x2 x3 x4 x5 x6 s v s2 h w fz L xs
    rw [f147_37] at h
    refine zGo_s (pc' := 39) (st' := [.int x6]) dd147_37 rfl ?_
    refine zGo_s (pc' := 40) (st' := [.ref 1007, .int x6]) dd147_39 rfl ?_
    refine cGI dd147_40 rfl rfl rfl rfl ?_
    rcases oite h with ⟨hc, h⟩ | ⟨hc, h⟩
    · refine zIF dd147_43 (kGeF hc) ?_
      refine zGo_s (pc' := 47) (st' := [.ref 1007]) dd147_46 rfl ?_
      refine zGo_s (pc' := 48) (st' := [.ref 1007, .ref 1007]) dd147_47 rfl ?_
      refine cGF (e := 1008) dd147_48 rfl rfl rfl rfl rfl ?_
      refine zGo_s (pc' := 53) (st' := [.int x6, .ref 1008, .ref 1007]) dd147_51 rfl ?_
      obtain ⟨hi, h⟩ := ochk h
      obtain ⟨a1, e_a1, c_a1, h⟩ := ordd h
      refine cAA dd147_53 rfl rfl (Or.inl rfl) hi e_a1 ?_
      refine zGo_s (pc' := 55) (st' := [.int x1, .ref a1, .ref 1007]) dd147_54 rfl ?_
      refine zGo_s (pc' := 56) (st' := [.int x2, .int x1, .ref a1, .ref 1007]) dd147_55 rfl ?_
      obtain ⟨v3, u2, hq, h⟩ := obnd h
      refine zCV1 (As := [.ref a1, .int x1, .int x2]) (rest := []) (b := 1007) (q' := q_148) dd147_56 rfl rfl (rcv_c rfl rfl (by decide)) rfl rfl rfl (f148_ok (d := d) (by omega) c_a1 hq) ?_
      rcases oite h with ⟨hc, h⟩ | ⟨hc, h⟩
      · refine zUT dd147_59 rfl (kEqT hc) ?_
        exact f147_85_ok hd hr3 ih h
      · refine zUF dd147_59 (kEqF hc) ?_
        refine zGo_s (pc' := 63) (st' := [.ref 1007]) dd147_62 rfl ?_
        refine cGF (e := 1008) dd147_63 rfl rfl rfl rfl rfl ?_
        refine zGo_s (pc' := 68) (st' := [.int x6, .ref 1008]) dd147_66 rfl ?_
        obtain ⟨hi, h⟩ := ochk h
        obtain ⟨a4, e_a4, c_a4, h⟩ := ordd h
        refine cAA dd147_68 rfl rfl (Or.inl rfl) hi e_a4 ?_
        refine zGo_s (pc' := 70) (st' := [.ref 1007, .ref a4]) dd147_69 rfl ?_
        refine cGF (e := 1008) dd147_70 rfl rfl rfl rfl rfl ?_
        refine zGo_s (pc' := 75) (st' := [.int x4, .ref 1008, .ref a4]) dd147_73 rfl ?_
        obtain ⟨hi, h⟩ := ochk h
        obtain ⟨a5, e_a5, c_a5, h⟩ := ordd h
        refine cAA dd147_75 rfl rfl (Or.inl rfl) hi e_a5 ?_
        obtain ⟨v7, u6, hq, h⟩ := obnd h
        refine zCS1 (As := [.ref a4, .ref a5]) (rest := []) (q' := q_113) dd147_76 rfl rfl rfl rfl rfl (f113_ok (d := d) (by omega) c_a4 c_a5 hq) ?_
        rcases oite h with ⟨hc, h⟩ | ⟨hc, h⟩
        · refine zUT dd147_79 rfl (kEqT hc) ?_
          exact f147_85_ok hd hr3 ih h
        · refine zUF dd147_79 (kEqF hc) ?_
          refine zGo_s (pc' := 85) (st' := []) (lv' := [(5, .int (x5 + (1 : Int32))), (0, .ref 1007), (1, .int x1), (2, .int x2), (3, .int x3), (4, .int x4), (6, .int x6)]) dd147_82 rfl ?_
          exact zGo_lv (lv := [(0, .ref 1007), (1, .int x1), (2, .int x2), (3, .int x3), (4, .int x4), (5, .int (x5 + (1 : Int32))), (6, .int x6)]) ⟨by simp, by simp, by simp⟩ (f147_85_ok hd hr3 ih h)
    · refine zIT dd147_43 rfl (kGeT hc) ?_
      refine zGo_s (pc' := 93) (st' := [.int x5]) dd147_91 rfl ?_
      refine zGo_s (pc' := 94) (st' := [.int x3, .int x5]) dd147_93 rfl ?_
      rcases oite h with ⟨hc, h⟩ | ⟨hc, h⟩
      · refine zIF dd147_94 (kNeF hc) ?_
        refine zGo_s (pc' := 99) (st' := [.int x4]) dd147_97 rfl ?_
        obtain ⟨rfl, rfl⟩ := oret h
        exact zGo_ret dd147_99 rfl rfl
      · refine zIT dd147_94 rfl (kNeT hc) ?_
        exact zGo_lv (lv := [(0, .ref 1007), (1, .int x1), (2, .int x2), (3, .int x3), (4, .int x4)]) ⟨by simp, by simp, by simp⟩ (f147_100_ok hd hr3 h)
def f147_3 (n : Nat) : Nat → Int32 → Int32 → Int32 → Int32 → zσ → Option (Int32 × zσ)
  | 0, _, _, _, _, _ => none
  | j + 1, x1, x2, x3, x4, s =>
    if x4 < (s.1 1007 12) then
    if zin? x4 8 = true then
    zrd 8 (s.2.2 1008 (nx x4)) fun a1 =>
    yb1 (f148 n a1 x1 x2 s) fun v3 u2 =>
    if v3 = (0 : Int32) then
    f147_100 n (f147_3 n j) x1 x2 x3 x4 u2
    else f147_37 n (f147_3 n j) n x1 x2 x3 x4 (0 : Int32) (0 : Int32) u2
    else none
    else some ((-1 : Int32), s)
set_option maxRecDepth 20000 in
theorem f147_3_ok {n d : Nat} (hd : 2 ≤ d) : ∀ (j : Nat) (x1 : Int32) (x2 : Int32) (x3 : Int32) (x4 : Int32) (s : zσ) (v : Int32) (s2 : zσ), f147_3 n j x1 x2 x3 x4 s = some (v, s2) → ∀ {w : zσ} {fz : Bool} {L : Nat} {xs : Nat → Int32}, zGo (zX fz L xs) d q_147 (3, [(0, .ref 1007), (1, .int x1), (2, .int x2), (3, .int x3), (4, .int x4)], [], zmk s w, 0, 0) (some (.int v), zmk s2 w, 0, 0) := by
  obtain ⟨d, rfl⟩ : ∃ d0, d = d0 + 1 := ⟨d - 1, by omega⟩
  intro j
  induction j with
  | zero => intro x1 x2 x3 x4 s v s2 h; cases h
  | succ j ih =>
    intro x1 x2 x3 x4 s v s2 h w fz L xs
    rw [f147_3] at h
    refine zGo_s (pc' := 5) (st' := [.int x4]) dd147_3 rfl ?_
    refine zGo_s (pc' := 6) (st' := [.ref 1007, .int x4]) dd147_5 rfl ?_
    refine cGI dd147_6 rfl rfl rfl rfl ?_
    rcases oite h with ⟨hc, h⟩ | ⟨hc, h⟩
    · refine zIF dd147_9 (kGeF hc) ?_
      refine zGo_s (pc' := 13) (st' := [.ref 1007]) dd147_12 rfl ?_
      refine zGo_s (pc' := 14) (st' := [.ref 1007, .ref 1007]) dd147_13 rfl ?_
      refine cGF (e := 1008) dd147_14 rfl rfl rfl rfl rfl ?_
      refine zGo_s (pc' := 19) (st' := [.int x4, .ref 1008, .ref 1007]) dd147_17 rfl ?_
      obtain ⟨hi, h⟩ := ochk h
      obtain ⟨a1, e_a1, c_a1, h⟩ := ordd h
      refine cAA dd147_19 rfl rfl (Or.inl rfl) hi e_a1 ?_
      refine zGo_s (pc' := 21) (st' := [.int x1, .ref a1, .ref 1007]) dd147_20 rfl ?_
      refine zGo_s (pc' := 22) (st' := [.int x2, .int x1, .ref a1, .ref 1007]) dd147_21 rfl ?_
      obtain ⟨v3, u2, hq, h⟩ := obnd h
      refine zCV1 (As := [.ref a1, .int x1, .int x2]) (rest := []) (b := 1007) (q' := q_148) dd147_22 rfl rfl (rcv_c rfl rfl (by decide)) rfl rfl rfl (f148_ok (d := d) (by omega) c_a1 hq) ?_
      rcases oite h with ⟨hc, h⟩ | ⟨hc, h⟩
      · refine zUF dd147_25 (kNeF hc) ?_
        refine zGo_s (pc' := 100) (st' := []) dd147_28 rfl ?_
        exact f147_100_ok hd ih h
      · refine zUT dd147_25 rfl (kNeT hc) ?_
        refine zGo_s (pc' := 32) (st' := [.int (0 : Int32)]) dd147_31 rfl ?_
        refine zGo_s (pc' := 34) (st' := []) (lv' := [(5, .int (0 : Int32)), (0, .ref 1007), (1, .int x1), (2, .int x2), (3, .int x3), (4, .int x4)]) dd147_32 rfl ?_
        refine zGo_s (pc' := 35) (st' := [.int (0 : Int32)]) dd147_34 rfl ?_
        refine zGo_s (pc' := 37) (st' := []) (lv' := [(6, .int (0 : Int32)), (5, .int (0 : Int32)), (0, .ref 1007), (1, .int x1), (2, .int x2), (3, .int x3), (4, .int x4)]) dd147_35 rfl ?_
        exact zGo_lv (lv := [(0, .ref 1007), (1, .int x1), (2, .int x2), (3, .int x3), (4, .int x4), (5, .int (0 : Int32)), (6, .int (0 : Int32))]) ⟨by simp, by simp, by simp⟩ (f147_37_ok hd ih _ _ _ _ _ _ _ _ _ _ h)
    · refine zIT dd147_9 rfl (kGeT hc) ?_
      refine zGo_s (pc' := 107) (st' := [.int (-1 : Int32)]) dd147_106 rfl ?_
      obtain ⟨rfl, rfl⟩ := oret h
      exact zGo_ret dd147_107 rfl rfl
def f147 (n : Nat) (x1 : Int32) (x2 : Int32) (x3 : Int32) (s : zσ) : Option (Int32 × zσ) :=
    f147_3 n n x1 x2 x3 (0 : Int32) s
set_option maxRecDepth 20000 in
theorem f147_ok {n d : Nat} {x1 : Int32} {x2 : Int32} {x3 : Int32} {s : zσ} {v : Int32} {s2 : zσ} (hd : 2 ≤ d) (h : f147 n x1 x2 x3 s = some (v, s2)) {w : zσ} {fz : Bool} {L : Nat} {xs : Nat → Int32} : zGo (zX fz L xs) d q_147 (0, [(0, .ref 1007), (1, .int x1), (2, .int x2), (3, .int x3)], [], zmk s w, 0, 0) (some (.int v), zmk s2 w, 0, 0) := by
  obtain ⟨d, rfl⟩ : ∃ d0, d = d0 + 1 := ⟨d - 1, by omega⟩
  unfold f147 at h
  refine zGo_s (pc' := 1) (st' := [.int (0 : Int32)]) dd147_0 rfl ?_
  refine zGo_s (pc' := 3) (st' := []) (lv' := [(4, .int (0 : Int32)), (0, .ref 1007), (1, .int x1), (2, .int x2), (3, .int x3)]) dd147_1 rfl ?_
  exact zGo_lv (lv := [(0, .ref 1007), (1, .int x1), (2, .int x2), (3, .int x3), (4, .int (0 : Int32))]) ⟨by simp, by simp, by simp⟩ (f147_3_ok hd _ _ _ _ _ _ _ _ h)
/-! PH.waits(III)I -/
theorem dd146_0 : decode cX11_waits 0 = .ok (.aload_n 0, 1) := by decide +kernel
theorem dd146_1 : decode cX11_waits 1 = .ok (.getfield 28, 3) := by decide +kernel
theorem dd146_4 : decode cX11_waits 4 = .ok (.getfield 67, 3) := by decide +kernel
theorem dd146_7 : decode cX11_waits 7 = .ok (.ifCond .ne 6, 3) := by decide +kernel
theorem dd146_10 : decode cX11_waits 10 = .ok (.bipush (-3), 2) := by decide +kernel
theorem dd146_12 : decode cX11_waits 12 = .ok (.ireturn, 1) := by decide +kernel
theorem dd146_13 : decode cX11_waits 13 = .ok (.iload_n 1, 1) := by decide +kernel
theorem dd146_14 : decode cX11_waits 14 = .ok (.iconst 2, 1) := by decide +kernel
theorem dd146_15 : decode cX11_waits 15 = .ok (.if_icmp .eq 16, 3) := by decide +kernel
theorem dd146_18 : decode cX11_waits 18 = .ok (.iload_n 1, 1) := by decide +kernel
theorem dd146_19 : decode cX11_waits 19 = .ok (.iconst 3, 1) := by decide +kernel
theorem dd146_20 : decode cX11_waits 20 = .ok (.if_icmp .eq 11, 3) := by decide +kernel
theorem dd146_23 : decode cX11_waits 23 = .ok (.iload_n 1, 1) := by decide +kernel
theorem dd146_24 : decode cX11_waits 24 = .ok (.iconst 5, 1) := by decide +kernel
theorem dd146_25 : decode cX11_waits 25 = .ok (.if_icmp .eq 6, 3) := by decide +kernel
theorem dd146_28 : decode cX11_waits 28 = .ok (.bipush (-2), 2) := by decide +kernel
theorem dd146_30 : decode cX11_waits 30 = .ok (.ireturn, 1) := by decide +kernel
theorem dd146_31 : decode cX11_waits 31 = .ok (.aload_n 0, 1) := by decide +kernel
theorem dd146_32 : decode cX11_waits 32 = .ok (.getfield 35, 3) := by decide +kernel
theorem dd146_35 : decode cX11_waits 35 = .ok (.iload_n 1, 1) := by decide +kernel
theorem dd146_36 : decode cX11_waits 36 = .ok (.iload_n 2, 1) := by decide +kernel
theorem dd146_37 : decode cX11_waits 37 = .ok (.invokevirtual 111, 3) := by decide +kernel
theorem dd146_40 : decode cX11_waits 40 = .ok (.ifCond .eq 16, 3) := by decide +kernel
theorem dd146_43 : decode cX11_waits 43 = .ok (.aload_n 0, 1) := by decide +kernel
theorem dd146_44 : decode cX11_waits 44 = .ok (.getfield 28, 3) := by decide +kernel
theorem dd146_47 : decode cX11_waits 47 = .ok (.iload_n 1, 1) := by decide +kernel
theorem dd146_48 : decode cX11_waits 48 = .ok (.iload_n 2, 1) := by decide +kernel
theorem dd146_49 : decode cX11_waits 49 = .ok (.iload_n 3, 1) := by decide +kernel
theorem dd146_50 : decode cX11_waits 50 = .ok (.invokevirtual 196, 3) := by decide +kernel
theorem dd146_53 : decode cX11_waits 53 = .ok (.goto 4, 3) := by decide +kernel
theorem dd146_56 : decode cX11_waits 56 = .ok (.iconst (-1), 1) := by decide +kernel
theorem dd146_57 : decode cX11_waits 57 = .ok (.ireturn, 1) := by decide +kernel
def f146_31 (n : Nat) (x1 : Int32) (x2 : Int32) (x3 : Int32) (s : zσ) : Option (Int32 × zσ) :=
    zrd 9 (s.2.2 1000 3) fun a1 =>
    yb1 (f134 n a1 x1 x2 s) fun v3 u2 =>
    if v3 = (0 : Int32) then
    some ((-1 : Int32), u2)
    else yb1 (f147 n x1 x2 x3 u2) fun v5 u4 =>
    some (v5, u4)
set_option maxRecDepth 20000 in
theorem f146_31_ok {n d : Nat} {x1 : Int32} {x2 : Int32} {x3 : Int32} {s : zσ} {v : Int32} {s2 : zσ} (hd : 3 ≤ d) (h : f146_31 n x1 x2 x3 s = some (v, s2)) {w : zσ} {fz : Bool} {L : Nat} {xs : Nat → Int32} : zGo (zX fz L xs) d q_146 (31, [(0, .ref 1000), (1, .int x1), (2, .int x2), (3, .int x3)], [], zmk s w, 0, 0) (some (.int v), zmk s2 w, 0, 0) := by
  obtain ⟨d, rfl⟩ : ∃ d0, d = d0 + 1 := ⟨d - 1, by omega⟩
  unfold f146_31 at h
  refine zGo_s (pc' := 32) (st' := [.ref 1000]) dd146_31 rfl ?_
  obtain ⟨a1, e_a1, c_a1, h⟩ := ordd h
  refine cGR dd146_32 rfl rfl rfl rfl e_a1 ?_
  refine zGo_s (pc' := 36) (st' := [.int x1, .ref a1]) dd146_35 rfl ?_
  refine zGo_s (pc' := 37) (st' := [.int x2, .int x1, .ref a1]) dd146_36 rfl ?_
  obtain ⟨v3, u2, hq, h⟩ := obnd h
  refine zCV1 (As := [.int x1, .int x2]) (rest := []) (b := a1) (q' := q_134) dd146_37 rfl rfl (rcv_c (ck9_s c_a1).1 (ck9_s c_a1).2 (by decide)) rfl rfl rfl (f134_ok (d := d) (by omega) c_a1 hq) ?_
  rcases oite h with ⟨hc, h⟩ | ⟨hc, h⟩
  · refine zUT dd146_40 rfl (kEqT hc) ?_
    refine zGo_s (pc' := 57) (st' := [.int (-1 : Int32)]) dd146_56 rfl ?_
    obtain ⟨rfl, rfl⟩ := oret h
    exact zGo_ret dd146_57 rfl rfl
  · refine zUF dd146_40 (kEqF hc) ?_
    refine zGo_s (pc' := 44) (st' := [.ref 1000]) dd146_43 rfl ?_
    refine cGF (e := 1007) dd146_44 rfl rfl rfl rfl rfl ?_
    refine zGo_s (pc' := 48) (st' := [.int x1, .ref 1007]) dd146_47 rfl ?_
    refine zGo_s (pc' := 49) (st' := [.int x2, .int x1, .ref 1007]) dd146_48 rfl ?_
    refine zGo_s (pc' := 50) (st' := [.int x3, .int x2, .int x1, .ref 1007]) dd146_49 rfl ?_
    obtain ⟨v5, u4, hq, h⟩ := obnd h
    refine zCV1 (As := [.int x1, .int x2, .int x3]) (rest := []) (b := 1007) (q' := q_147) dd146_50 rfl rfl (rcv_c rfl rfl (by decide)) rfl rfl rfl (f147_ok (d := d) (by omega)  hq) ?_
    refine zGo_s (pc' := 57) (st' := [.int v5]) dd146_53 rfl ?_
    obtain ⟨rfl, rfl⟩ := oret h
    exact zGo_ret dd146_57 rfl rfl
def f146 (n : Nat) (x1 : Int32) (x2 : Int32) (x3 : Int32) (s : zσ) : Option (Int32 × zσ) :=
    if (s.1 1007 11) = (0 : Int32) then
    some ((-3 : Int32), s)
    else if x1 = (2 : Int32) then
    f146_31 n x1 x2 x3 s
    else if x1 = (3 : Int32) then
    f146_31 n x1 x2 x3 s
    else if x1 = (5 : Int32) then
    f146_31 n x1 x2 x3 s
    else some ((-2 : Int32), s)
set_option maxRecDepth 20000 in
theorem f146_ok {n d : Nat} {x1 : Int32} {x2 : Int32} {x3 : Int32} {s : zσ} {v : Int32} {s2 : zσ} (hd : 3 ≤ d) (h : f146 n x1 x2 x3 s = some (v, s2)) {w : zσ} {fz : Bool} {L : Nat} {xs : Nat → Int32} : zGo (zX fz L xs) d q_146 (0, [(0, .ref 1000), (1, .int x1), (2, .int x2), (3, .int x3)], [], zmk s w, 0, 0) (some (.int v), zmk s2 w, 0, 0) := by
  obtain ⟨d, rfl⟩ : ∃ d0, d = d0 + 1 := ⟨d - 1, by omega⟩
  unfold f146 at h
  refine zGo_s (pc' := 1) (st' := [.ref 1000]) dd146_0 rfl ?_
  refine cGF (e := 1007) dd146_1 rfl rfl rfl rfl rfl ?_
  refine cGI dd146_4 rfl rfl rfl rfl ?_
  rcases oite h with ⟨hc, h⟩ | ⟨hc, h⟩
  · refine zUF dd146_7 (kNeF hc) ?_
    refine zGo_s (pc' := 12) (st' := [.int (-3 : Int32)]) dd146_10 rfl ?_
    obtain ⟨rfl, rfl⟩ := oret h
    exact zGo_ret dd146_12 rfl rfl
  · refine zUT dd146_7 rfl (kNeT hc) ?_
    refine zGo_s (pc' := 14) (st' := [.int x1]) dd146_13 rfl ?_
    refine zGo_s (pc' := 15) (st' := [.int (2 : Int32), .int x1]) dd146_14 rfl ?_
    rcases oite h with ⟨hc, h⟩ | ⟨hc, h⟩
    · refine zIT dd146_15 rfl (kEqT hc) ?_
      exact f146_31_ok hd h
    · refine zIF dd146_15 (kEqF hc) ?_
      refine zGo_s (pc' := 19) (st' := [.int x1]) dd146_18 rfl ?_
      refine zGo_s (pc' := 20) (st' := [.int (3 : Int32), .int x1]) dd146_19 rfl ?_
      rcases oite h with ⟨hc, h⟩ | ⟨hc, h⟩
      · refine zIT dd146_20 rfl (kEqT hc) ?_
        exact f146_31_ok hd h
      · refine zIF dd146_20 (kEqF hc) ?_
        refine zGo_s (pc' := 24) (st' := [.int x1]) dd146_23 rfl ?_
        refine zGo_s (pc' := 25) (st' := [.int (5 : Int32), .int x1]) dd146_24 rfl ?_
        rcases oite h with ⟨hc, h⟩ | ⟨hc, h⟩
        · refine zIT dd146_25 rfl (kEqT hc) ?_
          exact f146_31_ok hd h
        · refine zIF dd146_25 (kEqF hc) ?_
          refine zGo_s (pc' := 30) (st' := [.int (-2 : Int32)]) dd146_28 rfl ?_
          obtain ⟨rfl, rfl⟩ := oret h
          exact zGo_ret dd146_30 rfl rfl
/-! PH$Timetable.tell(II)I -/
theorem dd150_0 : decode cX10_tell 0 = .ok (.aload_n 0, 1) := by decide +kernel
theorem dd150_1 : decode cX10_tell 1 = .ok (.getfield 9, 3) := by decide +kernel
theorem dd150_4 : decode cX10_tell 4 = .ok (.iload_n 1, 1) := by decide +kernel
theorem dd150_5 : decode cX10_tell 5 = .ok (.iaload, 1) := by decide +kernel
theorem dd150_6 : decode cX10_tell 6 = .ok (.iconst (-1), 1) := by decide +kernel
theorem dd150_7 : decode cX10_tell 7 = .ok (.if_icmp .ne 7, 3) := by decide +kernel
theorem dd150_10 : decode cX10_tell 10 = .ok (.iconst 1, 1) := by decide +kernel
theorem dd150_11 : decode cX10_tell 11 = .ok (.goto 4, 3) := by decide +kernel
theorem dd150_14 : decode cX10_tell 14 = .ok (.iconst 0, 1) := by decide +kernel
theorem dd150_15 : decode cX10_tell 15 = .ok (.istore_n 3, 1) := by decide +kernel
theorem dd150_16 : decode cX10_tell 16 = .ok (.iload_n 2, 1) := by decide +kernel
theorem dd150_17 : decode cX10_tell 17 = .ok (.tableswitch 65 0 2 #[27, 34, 49], 27) := by decide +kernel
theorem dd150_44 : decode cX10_tell 44 = .ok (.aload_n 0, 1) := by decide +kernel
theorem dd150_45 : decode cX10_tell 45 = .ok (.getfield 9, 3) := by decide +kernel
theorem dd150_48 : decode cX10_tell 48 = .ok (.iload_n 1, 1) := by decide +kernel
theorem dd150_49 : decode cX10_tell 49 = .ok (.iaload, 1) := by decide +kernel
theorem dd150_50 : decode cX10_tell 50 = .ok (.ireturn, 1) := by decide +kernel
theorem dd150_51 : decode cX10_tell 51 = .ok (.iload_n 3, 1) := by decide +kernel
theorem dd150_52 : decode cX10_tell 52 = .ok (.ifCond .eq 7, 3) := by decide +kernel
theorem dd150_55 : decode cX10_tell 55 = .ok (.iconst 0, 1) := by decide +kernel
theorem dd150_56 : decode cX10_tell 56 = .ok (.goto 9, 3) := by decide +kernel
theorem dd150_59 : decode cX10_tell 59 = .ok (.aload_n 0, 1) := by decide +kernel
theorem dd150_60 : decode cX10_tell 60 = .ok (.getfield 15, 3) := by decide +kernel
theorem dd150_63 : decode cX10_tell 63 = .ok (.iload_n 1, 1) := by decide +kernel
theorem dd150_64 : decode cX10_tell 64 = .ok (.iaload, 1) := by decide +kernel
theorem dd150_65 : decode cX10_tell 65 = .ok (.ireturn, 1) := by decide +kernel
theorem dd150_66 : decode cX10_tell 66 = .ok (.iload_n 3, 1) := by decide +kernel
theorem dd150_67 : decode cX10_tell 67 = .ok (.ifCond .eq 8, 3) := by decide +kernel
theorem dd150_70 : decode cX10_tell 70 = .ok (.ldc 40, 2) := by decide +kernel
theorem dd150_72 : decode cX10_tell 72 = .ok (.goto 9, 3) := by decide +kernel
theorem dd150_75 : decode cX10_tell 75 = .ok (.aload_n 0, 1) := by decide +kernel
theorem dd150_76 : decode cX10_tell 76 = .ok (.getfield 18, 3) := by decide +kernel
theorem dd150_79 : decode cX10_tell 79 = .ok (.iload_n 1, 1) := by decide +kernel
theorem dd150_80 : decode cX10_tell 80 = .ok (.iaload, 1) := by decide +kernel
theorem dd150_81 : decode cX10_tell 81 = .ok (.ireturn, 1) := by decide +kernel
theorem dd150_82 : decode cX10_tell 82 = .ok (.iload_n 3, 1) := by decide +kernel
theorem dd150_83 : decode cX10_tell 83 = .ok (.ifCond .eq 7, 3) := by decide +kernel
theorem dd150_86 : decode cX10_tell 86 = .ok (.iconst (-1), 1) := by decide +kernel
theorem dd150_87 : decode cX10_tell 87 = .ok (.goto 9, 3) := by decide +kernel
theorem dd150_90 : decode cX10_tell 90 = .ok (.aload_n 0, 1) := by decide +kernel
theorem dd150_91 : decode cX10_tell 91 = .ok (.getfield 21, 3) := by decide +kernel
theorem dd150_94 : decode cX10_tell 94 = .ok (.iload_n 1, 1) := by decide +kernel
theorem dd150_95 : decode cX10_tell 95 = .ok (.iaload, 1) := by decide +kernel
theorem dd150_96 : decode cX10_tell 96 = .ok (.ireturn, 1) := by decide +kernel
def f150_15 (n : Nat) (x1 : Int32) (x2 : Int32) (y0 : Int32) (s : zσ) : Option (Int32 × zσ) :=
    if x2 = (0 : Int32) then
    if zin? x1 16 = true then
    some ((s.1 1023 (nx x1)), s)
    else none
    else if x2 = (1 : Int32) then
    if y0 = (0 : Int32) then
    if zin? x1 16 = true then
    some ((s.1 1024 (nx x1)), s)
    else none
    else some ((0 : Int32), s)
    else if x2 = (2 : Int32) then
    if y0 = (0 : Int32) then
    if zin? x1 16 = true then
    some ((s.1 1025 (nx x1)), s)
    else none
    else some ((2147483647 : Int32), s)
    else if y0 = (0 : Int32) then
    if zin? x1 16 = true then
    some ((s.1 1026 (nx x1)), s)
    else none
    else some ((-1 : Int32), s)
set_option maxRecDepth 20000 in
theorem f150_15_ok {n d : Nat} {x1 : Int32} {x2 : Int32} {y0 : Int32} {s : zσ} {v : Int32} {s2 : zσ} (hd : 0 ≤ d) (h : f150_15 n x1 x2 y0 s = some (v, s2)) {w : zσ} {fz : Bool} {L : Nat} {xs : Nat → Int32} : zGo (zX fz L xs) d q_150 (15, [(0, .ref 1022), (1, .int x1), (2, .int x2)], [.int y0], zmk s w, 0, 0) (some (.int v), zmk s2 w, 0, 0) := by
  unfold f150_15 at h
  refine zGo_s (pc' := 16) (st' := []) (lv' := [(3, .int y0), (0, .ref 1022), (1, .int x1), (2, .int x2)]) dd150_15 rfl ?_
  refine zGo_s (pc' := 17) (st' := [.int x2]) dd150_16 rfl ?_
  rcases oite h with ⟨hc, h⟩ | ⟨hn0, h⟩
  · refine zGo_sw dd150_17 (o := 27) (by rw [hc]; decide +kernel) rfl ?_
    refine zGo_s (pc' := 45) (st' := [.ref 1022]) dd150_44 rfl ?_
    refine cGF (e := 1023) dd150_45 rfl rfl rfl rfl rfl ?_
    refine zGo_s (pc' := 49) (st' := [.int x1, .ref 1023]) dd150_48 rfl ?_
    obtain ⟨hi, h⟩ := ochk h
    refine cIA dd150_49 rfl rfl hi ?_
    obtain ⟨rfl, rfl⟩ := oret h
    exact zGo_ret dd150_50 rfl rfl
  rcases oite h with ⟨hc, h⟩ | ⟨hn1, h⟩
  · refine zGo_sw dd150_17 (o := 34) (by rw [hc]; decide +kernel) rfl ?_
    refine zGo_s (pc' := 52) (st' := [.int y0]) dd150_51 rfl ?_
    rcases oite h with ⟨hc, h⟩ | ⟨hc, h⟩
    · refine zUT dd150_52 rfl (kEqT hc) ?_
      refine zGo_s (pc' := 60) (st' := [.ref 1022]) dd150_59 rfl ?_
      refine cGF (e := 1024) dd150_60 rfl rfl rfl rfl rfl ?_
      refine zGo_s (pc' := 64) (st' := [.int x1, .ref 1024]) dd150_63 rfl ?_
      obtain ⟨hi, h⟩ := ochk h
      refine cIA dd150_64 rfl rfl hi ?_
      obtain ⟨rfl, rfl⟩ := oret h
      exact zGo_ret dd150_65 rfl rfl
    · refine zUF dd150_52 (kEqF hc) ?_
      refine zGo_s (pc' := 56) (st' := [.int (0 : Int32)]) dd150_55 rfl ?_
      refine zGo_s (pc' := 65) (st' := [.int (0 : Int32)]) dd150_56 rfl ?_
      obtain ⟨rfl, rfl⟩ := oret h
      exact zGo_ret dd150_65 rfl rfl
  rcases oite h with ⟨hc, h⟩ | ⟨hn2, h⟩
  · refine zGo_sw dd150_17 (o := 49) (by rw [hc]; decide +kernel) rfl ?_
    refine zGo_s (pc' := 67) (st' := [.int y0]) dd150_66 rfl ?_
    rcases oite h with ⟨hc, h⟩ | ⟨hc, h⟩
    · refine zUT dd150_67 rfl (kEqT hc) ?_
      refine zGo_s (pc' := 76) (st' := [.ref 1022]) dd150_75 rfl ?_
      refine cGF (e := 1025) dd150_76 rfl rfl rfl rfl rfl ?_
      refine zGo_s (pc' := 80) (st' := [.int x1, .ref 1025]) dd150_79 rfl ?_
      obtain ⟨hi, h⟩ := ochk h
      refine cIA dd150_80 rfl rfl hi ?_
      obtain ⟨rfl, rfl⟩ := oret h
      exact zGo_ret dd150_81 rfl rfl
    · refine zUF dd150_67 (kEqF hc) ?_
      refine zGo_s (pc' := 72) (st' := [.int (2147483647 : Int32)]) dd150_70 rfl ?_
      refine zGo_s (pc' := 81) (st' := [.int (2147483647 : Int32)]) dd150_72 rfl ?_
      obtain ⟨rfl, rfl⟩ := oret h
      exact zGo_ret dd150_81 rfl rfl
  refine zGo_sw dd150_17 (o := 65) (zto_d (by decide) (by decide) fun k hk => ?_) rfl ?_
  · have hk2 : k = 0 ∨ k = 1 ∨ k = 2 := by omega
    rcases hk2 with rfl | rfl | rfl
    · exact Or.inr hn0
    · exact Or.inr hn1
    · exact Or.inr hn2
  refine zGo_s (pc' := 83) (st' := [.int y0]) dd150_82 rfl ?_
  rcases oite h with ⟨hc, h⟩ | ⟨hc, h⟩
  · refine zUT dd150_83 rfl (kEqT hc) ?_
    refine zGo_s (pc' := 91) (st' := [.ref 1022]) dd150_90 rfl ?_
    refine cGF (e := 1026) dd150_91 rfl rfl rfl rfl rfl ?_
    refine zGo_s (pc' := 95) (st' := [.int x1, .ref 1026]) dd150_94 rfl ?_
    obtain ⟨hi, h⟩ := ochk h
    refine cIA dd150_95 rfl rfl hi ?_
    obtain ⟨rfl, rfl⟩ := oret h
    exact zGo_ret dd150_96 rfl rfl
  · refine zUF dd150_83 (kEqF hc) ?_
    refine zGo_s (pc' := 87) (st' := [.int (-1 : Int32)]) dd150_86 rfl ?_
    refine zGo_s (pc' := 96) (st' := [.int (-1 : Int32)]) dd150_87 rfl ?_
    obtain ⟨rfl, rfl⟩ := oret h
    exact zGo_ret dd150_96 rfl rfl
def f150 (n : Nat) (x1 : Int32) (x2 : Int32) (s : zσ) : Option (Int32 × zσ) :=
    if zin? x1 16 = true then
    if (s.1 1023 (nx x1)) = (-1 : Int32) then
    f150_15 n x1 x2 (1 : Int32) s
    else f150_15 n x1 x2 (0 : Int32) s
    else none
set_option maxRecDepth 20000 in
theorem f150_ok {n d : Nat} {x1 : Int32} {x2 : Int32} {s : zσ} {v : Int32} {s2 : zσ} (hd : 0 ≤ d) (h : f150 n x1 x2 s = some (v, s2)) {w : zσ} {fz : Bool} {L : Nat} {xs : Nat → Int32} : zGo (zX fz L xs) d q_150 (0, [(0, .ref 1022), (1, .int x1), (2, .int x2)], [], zmk s w, 0, 0) (some (.int v), zmk s2 w, 0, 0) := by
  unfold f150 at h
  refine zGo_s (pc' := 1) (st' := [.ref 1022]) dd150_0 rfl ?_
  refine cGF (e := 1023) dd150_1 rfl rfl rfl rfl rfl ?_
  refine zGo_s (pc' := 5) (st' := [.int x1, .ref 1023]) dd150_4 rfl ?_
  obtain ⟨hi, h⟩ := ochk h
  refine cIA dd150_5 rfl rfl hi ?_
  refine zGo_s (pc' := 7) (st' := [.int (-1 : Int32), .int (s.1 1023 (nx x1))]) dd150_6 rfl ?_
  rcases oite h with ⟨hc, h⟩ | ⟨hc, h⟩
  · refine zIF dd150_7 (kNeF hc) ?_
    refine zGo_s (pc' := 11) (st' := [.int (1 : Int32)]) dd150_10 rfl ?_
    refine zGo_s (pc' := 15) (st' := [.int (1 : Int32)]) dd150_11 rfl ?_
    exact f150_15_ok hd h
  · refine zIT dd150_7 rfl (kNeT hc) ?_
    refine zGo_s (pc' := 15) (st' := [.int (0 : Int32)]) dd150_14 rfl ?_
    exact f150_15_ok hd h
/-! PH.schedule(III)I -/
theorem dd149_0 : decode cX11_schedule 0 = .ok (.aload_n 0, 1) := by decide +kernel
theorem dd149_1 : decode cX11_schedule 1 = .ok (.getfield 28, 3) := by decide +kernel
theorem dd149_4 : decode cX11_schedule 4 = .ok (.getfield 67, 3) := by decide +kernel
theorem dd149_7 : decode cX11_schedule 7 = .ok (.ifCond .ne 6, 3) := by decide +kernel
theorem dd149_10 : decode cX11_schedule 10 = .ok (.bipush (-3), 2) := by decide +kernel
theorem dd149_12 : decode cX11_schedule 12 = .ok (.ireturn, 1) := by decide +kernel
theorem dd149_13 : decode cX11_schedule 13 = .ok (.aload_n 0, 1) := by decide +kernel
theorem dd149_14 : decode cX11_schedule 14 = .ok (.getfield 35, 3) := by decide +kernel
theorem dd149_17 : decode cX11_schedule 17 = .ok (.bipush 8, 2) := by decide +kernel
theorem dd149_19 : decode cX11_schedule 19 = .ok (.iload_n 1, 1) := by decide +kernel
theorem dd149_20 : decode cX11_schedule 20 = .ok (.invokevirtual 111, 3) := by decide +kernel
theorem dd149_23 : decode cX11_schedule 23 = .ok (.ifCond .ne 5, 3) := by decide +kernel
theorem dd149_26 : decode cX11_schedule 26 = .ok (.iconst (-1), 1) := by decide +kernel
theorem dd149_27 : decode cX11_schedule 27 = .ok (.ireturn, 1) := by decide +kernel
theorem dd149_28 : decode cX11_schedule 28 = .ok (.iload_n 2, 1) := by decide +kernel
theorem dd149_29 : decode cX11_schedule 29 = .ok (.ifCond .lt 17, 3) := by decide +kernel
theorem dd149_32 : decode cX11_schedule 32 = .ok (.iload_n 2, 1) := by decide +kernel
theorem dd149_33 : decode cX11_schedule 33 = .ok (.iconst 1, 1) := by decide +kernel
theorem dd149_34 : decode cX11_schedule 34 = .ok (.if_icmp .gt 12, 3) := by decide +kernel
theorem dd149_37 : decode cX11_schedule 37 = .ok (.iload_n 3, 1) := by decide +kernel
theorem dd149_38 : decode cX11_schedule 38 = .ok (.ifCond .lt 8, 3) := by decide +kernel
theorem dd149_41 : decode cX11_schedule 41 = .ok (.iload_n 3, 1) := by decide +kernel
theorem dd149_42 : decode cX11_schedule 42 = .ok (.iconst 3, 1) := by decide +kernel
theorem dd149_43 : decode cX11_schedule 43 = .ok (.if_icmp .le 6, 3) := by decide +kernel
theorem dd149_46 : decode cX11_schedule 46 = .ok (.bipush (-2), 2) := by decide +kernel
theorem dd149_48 : decode cX11_schedule 48 = .ok (.ireturn, 1) := by decide +kernel
theorem dd149_49 : decode cX11_schedule 49 = .ok (.aload_n 0, 1) := by decide +kernel
theorem dd149_50 : decode cX11_schedule 50 = .ok (.getfield 28, 3) := by decide +kernel
theorem dd149_53 : decode cX11_schedule 53 = .ok (.getfield 174, 3) := by decide +kernel
theorem dd149_56 : decode cX11_schedule 56 = .ok (.iconst 2, 1) := by decide +kernel
theorem dd149_57 : decode cX11_schedule 57 = .ok (.iload_n 1, 1) := by decide +kernel
theorem dd149_58 : decode cX11_schedule 58 = .ok (.imul, 1) := by decide +kernel
theorem dd149_59 : decode cX11_schedule 59 = .ok (.iload_n 2, 1) := by decide +kernel
theorem dd149_60 : decode cX11_schedule 60 = .ok (.iadd, 1) := by decide +kernel
theorem dd149_61 : decode cX11_schedule 61 = .ok (.iload_n 3, 1) := by decide +kernel
theorem dd149_62 : decode cX11_schedule 62 = .ok (.invokevirtual 200, 3) := by decide +kernel
theorem dd149_65 : decode cX11_schedule 65 = .ok (.ireturn, 1) := by decide +kernel
def f149 (n : Nat) (x1 : Int32) (x2 : Int32) (x3 : Int32) (s : zσ) : Option (Int32 × zσ) :=
    if (s.1 1007 11) = (0 : Int32) then
    some ((-3 : Int32), s)
    else zrd 9 (s.2.2 1000 3) fun a1 =>
    yb1 (f134 n a1 (8 : Int32) x1 s) fun v3 u2 =>
    if v3 = (0 : Int32) then
    some ((-1 : Int32), u2)
    else if x2 < (0 : Int32) then
    some ((-2 : Int32), u2)
    else if (1 : Int32) < x2 then
    some ((-2 : Int32), u2)
    else if x3 < (0 : Int32) then
    some ((-2 : Int32), u2)
    else if (3 : Int32) < x3 then
    some ((-2 : Int32), u2)
    else yb1 (f150 n (((2 : Int32) * x1) + x2) x3 u2) fun v5 u4 =>
    some (v5, u4)
set_option maxRecDepth 20000 in
theorem f149_ok {n d : Nat} {x1 : Int32} {x2 : Int32} {x3 : Int32} {s : zσ} {v : Int32} {s2 : zσ} (hd : 1 ≤ d) (h : f149 n x1 x2 x3 s = some (v, s2)) {w : zσ} {fz : Bool} {L : Nat} {xs : Nat → Int32} : zGo (zX fz L xs) d q_149 (0, [(0, .ref 1000), (1, .int x1), (2, .int x2), (3, .int x3)], [], zmk s w, 0, 0) (some (.int v), zmk s2 w, 0, 0) := by
  obtain ⟨d, rfl⟩ : ∃ d0, d = d0 + 1 := ⟨d - 1, by omega⟩
  unfold f149 at h
  refine zGo_s (pc' := 1) (st' := [.ref 1000]) dd149_0 rfl ?_
  refine cGF (e := 1007) dd149_1 rfl rfl rfl rfl rfl ?_
  refine cGI dd149_4 rfl rfl rfl rfl ?_
  rcases oite h with ⟨hc, h⟩ | ⟨hc, h⟩
  · refine zUF dd149_7 (kNeF hc) ?_
    refine zGo_s (pc' := 12) (st' := [.int (-3 : Int32)]) dd149_10 rfl ?_
    obtain ⟨rfl, rfl⟩ := oret h
    exact zGo_ret dd149_12 rfl rfl
  · refine zUT dd149_7 rfl (kNeT hc) ?_
    refine zGo_s (pc' := 14) (st' := [.ref 1000]) dd149_13 rfl ?_
    obtain ⟨a1, e_a1, c_a1, h⟩ := ordd h
    refine cGR dd149_14 rfl rfl rfl rfl e_a1 ?_
    refine zGo_s (pc' := 19) (st' := [.int (8 : Int32), .ref a1]) dd149_17 rfl ?_
    refine zGo_s (pc' := 20) (st' := [.int x1, .int (8 : Int32), .ref a1]) dd149_19 rfl ?_
    obtain ⟨v3, u2, hq, h⟩ := obnd h
    refine zCV1 (As := [.int (8 : Int32), .int x1]) (rest := []) (b := a1) (q' := q_134) dd149_20 rfl rfl (rcv_c (ck9_s c_a1).1 (ck9_s c_a1).2 (by decide)) rfl rfl rfl (f134_ok (d := d) (by omega) c_a1 hq) ?_
    rcases oite h with ⟨hc, h⟩ | ⟨hc, h⟩
    · refine zUF dd149_23 (kNeF hc) ?_
      refine zGo_s (pc' := 27) (st' := [.int (-1 : Int32)]) dd149_26 rfl ?_
      obtain ⟨rfl, rfl⟩ := oret h
      exact zGo_ret dd149_27 rfl rfl
    · refine zUT dd149_23 rfl (kNeT hc) ?_
      refine zGo_s (pc' := 29) (st' := [.int x2]) dd149_28 rfl ?_
      rcases oite h with ⟨hc, h⟩ | ⟨hc, h⟩
      · refine zUT dd149_29 rfl (kLtT hc) ?_
        refine zGo_s (pc' := 48) (st' := [.int (-2 : Int32)]) dd149_46 rfl ?_
        obtain ⟨rfl, rfl⟩ := oret h
        exact zGo_ret dd149_48 rfl rfl
      · refine zUF dd149_29 (kLtF hc) ?_
        refine zGo_s (pc' := 33) (st' := [.int x2]) dd149_32 rfl ?_
        refine zGo_s (pc' := 34) (st' := [.int (1 : Int32), .int x2]) dd149_33 rfl ?_
        rcases oite h with ⟨hc, h⟩ | ⟨hc, h⟩
        · refine zIT dd149_34 rfl (kGtT hc) ?_
          refine zGo_s (pc' := 48) (st' := [.int (-2 : Int32)]) dd149_46 rfl ?_
          obtain ⟨rfl, rfl⟩ := oret h
          exact zGo_ret dd149_48 rfl rfl
        · refine zIF dd149_34 (kGtF hc) ?_
          refine zGo_s (pc' := 38) (st' := [.int x3]) dd149_37 rfl ?_
          rcases oite h with ⟨hc, h⟩ | ⟨hc, h⟩
          · refine zUT dd149_38 rfl (kLtT hc) ?_
            refine zGo_s (pc' := 48) (st' := [.int (-2 : Int32)]) dd149_46 rfl ?_
            obtain ⟨rfl, rfl⟩ := oret h
            exact zGo_ret dd149_48 rfl rfl
          · refine zUF dd149_38 (kLtF hc) ?_
            refine zGo_s (pc' := 42) (st' := [.int x3]) dd149_41 rfl ?_
            refine zGo_s (pc' := 43) (st' := [.int (3 : Int32), .int x3]) dd149_42 rfl ?_
            rcases oite h with ⟨hc, h⟩ | ⟨hc, h⟩
            · refine zIF dd149_43 (kLeF hc) ?_
              refine zGo_s (pc' := 48) (st' := [.int (-2 : Int32)]) dd149_46 rfl ?_
              obtain ⟨rfl, rfl⟩ := oret h
              exact zGo_ret dd149_48 rfl rfl
            · refine zIT dd149_43 rfl (kLeT hc) ?_
              refine zGo_s (pc' := 50) (st' := [.ref 1000]) dd149_49 rfl ?_
              refine cGF (e := 1007) dd149_50 rfl rfl rfl rfl rfl ?_
              refine cGF (e := 1022) dd149_53 rfl rfl rfl rfl rfl ?_
              refine zGo_s (pc' := 57) (st' := [.int (2 : Int32), .ref 1022]) dd149_56 rfl ?_
              refine zGo_s (pc' := 58) (st' := [.int x1, .int (2 : Int32), .ref 1022]) dd149_57 rfl ?_
              refine zGo_s (pc' := 59) (st' := [.int ((2 : Int32) * x1), .ref 1022]) dd149_58 rfl ?_
              refine zGo_s (pc' := 60) (st' := [.int x2, .int ((2 : Int32) * x1), .ref 1022]) dd149_59 rfl ?_
              refine zGo_s (pc' := 61) (st' := [.int (((2 : Int32) * x1) + x2), .ref 1022]) dd149_60 rfl ?_
              refine zGo_s (pc' := 62) (st' := [.int x3, .int (((2 : Int32) * x1) + x2), .ref 1022]) dd149_61 rfl ?_
              obtain ⟨v5, u4, hq, h⟩ := obnd h
              refine zCV1 (As := [.int (((2 : Int32) * x1) + x2), .int x3]) (rest := []) (b := 1022) (q' := q_150) dd149_62 rfl rfl (rcv_c rfl rfl (by decide)) rfl rfl rfl (f150_ok (d := d) (by omega)  hq) ?_
              obtain ⟨rfl, rfl⟩ := oret h
              exact zGo_ret dd149_65 rfl rfl
/-! PH$Machine.hindering(LPH$Task;)I -/
theorem dd153_0 : decode cX3_hindering 0 = .ok (.aload_n 1, 1) := by decide +kernel
theorem dd153_1 : decode cX3_hindering 1 = .ok (.getfield 183, 3) := by decide +kernel
theorem dd153_4 : decode cX3_hindering 4 = .ok (.aload_n 1, 1) := by decide +kernel
theorem dd153_5 : decode cX3_hindering 5 = .ok (.getfield 186, 3) := by decide +kernel
theorem dd153_8 : decode cX3_hindering 8 = .ok (.iaload, 1) := by decide +kernel
theorem dd153_9 : decode cX3_hindering 9 = .ok (.istore_n 2, 1) := by decide +kernel
theorem dd153_10 : decode cX3_hindering 10 = .ok (.aload_n 1, 1) := by decide +kernel
theorem dd153_11 : decode cX3_hindering 11 = .ok (.invokevirtual 393, 3) := by decide +kernel
theorem dd153_14 : decode cX3_hindering 14 = .ok (.ifCond .eq 33, 3) := by decide +kernel
theorem dd153_17 : decode cX3_hindering 17 = .ok (.aload_n 0, 1) := by decide +kernel
theorem dd153_18 : decode cX3_hindering 18 = .ok (.getfield 59, 3) := by decide +kernel
theorem dd153_21 : decode cX3_hindering 21 = .ok (.getfield 256, 3) := by decide +kernel
theorem dd153_24 : decode cX3_hindering 24 = .ok (.iload_n 2, 1) := by decide +kernel
theorem dd153_25 : decode cX3_hindering 25 = .ok (.iaload, 1) := by decide +kernel
theorem dd153_26 : decode cX3_hindering 26 = .ok (.sipush 161, 3) := by decide +kernel
theorem dd153_29 : decode cX3_hindering 29 = .ok (.if_icmp .eq 20, 3) := by decide +kernel
theorem dd153_32 : decode cX3_hindering 32 = .ok (.aload_n 0, 1) := by decide +kernel
theorem dd153_33 : decode cX3_hindering 33 = .ok (.getfield 59, 3) := by decide +kernel
theorem dd153_36 : decode cX3_hindering 36 = .ok (.getfield 256, 3) := by decide +kernel
theorem dd153_39 : decode cX3_hindering 39 = .ok (.iload_n 2, 1) := by decide +kernel
theorem dd153_40 : decode cX3_hindering 40 = .ok (.iaload, 1) := by decide +kernel
theorem dd153_41 : decode cX3_hindering 41 = .ok (.sipush 163, 3) := by decide +kernel
theorem dd153_44 : decode cX3_hindering 44 = .ok (.if_icmp .eq 5, 3) := by decide +kernel
theorem dd153_47 : decode cX3_hindering 47 = .ok (.iconst 0, 1) := by decide +kernel
theorem dd153_48 : decode cX3_hindering 48 = .ok (.ireturn, 1) := by decide +kernel
theorem dd153_49 : decode cX3_hindering 49 = .ok (.aload_n 0, 1) := by decide +kernel
theorem dd153_50 : decode cX3_hindering 50 = .ok (.getfield 59, 3) := by decide +kernel
theorem dd153_53 : decode cX3_hindering 53 = .ok (.getfield 253, 3) := by decide +kernel
theorem dd153_56 : decode cX3_hindering 56 = .ok (.iload_n 2, 1) := by decide +kernel
theorem dd153_57 : decode cX3_hindering 57 = .ok (.iaload, 1) := by decide +kernel
theorem dd153_58 : decode cX3_hindering 58 = .ok (.istore_n 3, 1) := by decide +kernel
theorem dd153_59 : decode cX3_hindering 59 = .ok (.aload_n 0, 1) := by decide +kernel
theorem dd153_60 : decode cX3_hindering 60 = .ok (.getfield 27, 3) := by decide +kernel
theorem dd153_63 : decode cX3_hindering 63 = .ok (.getfield 383, 3) := by decide +kernel
theorem dd153_66 : decode cX3_hindering 66 = .ok (.iload_n 3, 1) := by decide +kernel
theorem dd153_67 : decode cX3_hindering 67 = .ok (.iaload, 1) := by decide +kernel
theorem dd153_68 : decode cX3_hindering 68 = .ok (.iconst (-1), 1) := by decide +kernel
theorem dd153_69 : decode cX3_hindering 69 = .ok (.if_icmp .ne 7, 3) := by decide +kernel
theorem dd153_72 : decode cX3_hindering 72 = .ok (.iconst 0, 1) := by decide +kernel
theorem dd153_73 : decode cX3_hindering 73 = .ok (.goto 14, 3) := by decide +kernel
theorem dd153_76 : decode cX3_hindering 76 = .ok (.iconst 1, 1) := by decide +kernel
theorem dd153_77 : decode cX3_hindering 77 = .ok (.aload_n 0, 1) := by decide +kernel
theorem dd153_78 : decode cX3_hindering 78 = .ok (.getfield 27, 3) := by decide +kernel
theorem dd153_81 : decode cX3_hindering 81 = .ok (.getfield 383, 3) := by decide +kernel
theorem dd153_84 : decode cX3_hindering 84 = .ok (.iload_n 3, 1) := by decide +kernel
theorem dd153_85 : decode cX3_hindering 85 = .ok (.iaload, 1) := by decide +kernel
theorem dd153_86 : decode cX3_hindering 86 = .ok (.ishl, 1) := by decide +kernel
theorem dd153_87 : decode cX3_hindering 87 = .ok (.istore 4, 2) := by decide +kernel
theorem dd153_89 : decode cX3_hindering 89 = .ok (.iconst 0, 1) := by decide +kernel
theorem dd153_90 : decode cX3_hindering 90 = .ok (.istore 5, 2) := by decide +kernel
theorem dd153_92 : decode cX3_hindering 92 = .ok (.iload 5, 2) := by decide +kernel
theorem dd153_94 : decode cX3_hindering 94 = .ok (.aload_n 0, 1) := by decide +kernel
theorem dd153_95 : decode cX3_hindering 95 = .ok (.getfield 71, 3) := by decide +kernel
theorem dd153_98 : decode cX3_hindering 98 = .ok (.if_icmp .ge 51, 3) := by decide +kernel
theorem dd153_101 : decode cX3_hindering 101 = .ok (.aload_n 0, 1) := by decide +kernel
theorem dd153_102 : decode cX3_hindering 102 = .ok (.getfield 59, 3) := by decide +kernel
theorem dd153_105 : decode cX3_hindering 105 = .ok (.getfield 256, 3) := by decide +kernel
theorem dd153_108 : decode cX3_hindering 108 = .ok (.iload_n 2, 1) := by decide +kernel
theorem dd153_109 : decode cX3_hindering 109 = .ok (.iaload, 1) := by decide +kernel
theorem dd153_110 : decode cX3_hindering 110 = .ok (.sipush 161, 3) := by decide +kernel
theorem dd153_113 : decode cX3_hindering 113 = .ok (.if_icmp .ne 30, 3) := by decide +kernel
theorem dd153_116 : decode cX3_hindering 116 = .ok (.aload_n 0, 1) := by decide +kernel
theorem dd153_117 : decode cX3_hindering 117 = .ok (.getfield 27, 3) := by decide +kernel
theorem dd153_120 : decode cX3_hindering 120 = .ok (.getfield 407, 3) := by decide +kernel
theorem dd153_123 : decode cX3_hindering 123 = .ok (.iload_n 3, 1) := by decide +kernel
theorem dd153_124 : decode cX3_hindering 124 = .ok (.bipush 8, 2) := by decide +kernel
theorem dd153_126 : decode cX3_hindering 126 = .ok (.imul, 1) := by decide +kernel
theorem dd153_127 : decode cX3_hindering 127 = .ok (.iload 5, 2) := by decide +kernel
theorem dd153_129 : decode cX3_hindering 129 = .ok (.iadd, 1) := by decide +kernel
theorem dd153_130 : decode cX3_hindering 130 = .ok (.iaload, 1) := by decide +kernel
theorem dd153_131 : decode cX3_hindering 131 = .ok (.ifCond .le 12, 3) := by decide +kernel
theorem dd153_134 : decode cX3_hindering 134 = .ok (.iload 4, 2) := by decide +kernel
theorem dd153_136 : decode cX3_hindering 136 = .ok (.iconst 1, 1) := by decide +kernel
theorem dd153_137 : decode cX3_hindering 137 = .ok (.iload 5, 2) := by decide +kernel
theorem dd153_139 : decode cX3_hindering 139 = .ok (.ishl, 1) := by decide +kernel
theorem dd153_140 : decode cX3_hindering 140 = .ok (.ior, 1) := by decide +kernel
theorem dd153_141 : decode cX3_hindering 141 = .ok (.istore 4, 2) := by decide +kernel
theorem dd153_143 : decode cX3_hindering 143 = .ok (.iinc 5 1, 3) := by decide +kernel
theorem dd153_146 : decode cX3_hindering 146 = .ok (.goto (-54), 3) := by decide +kernel
theorem dd153_149 : decode cX3_hindering 149 = .ok (.iload 4, 2) := by decide +kernel
theorem dd153_151 : decode cX3_hindering 151 = .ok (.ireturn, 1) := by decide +kernel
def f153_143 (n : Nat) (r92 : Int32 → Int32 → Int32 → Int32 → zσ → Option (Int32 × zσ)) (x2 : Int32) (x3 : Int32) (x4 : Int32) (x5 : Int32) (s : zσ) : Option (Int32 × zσ) :=
    r92 x2 x3 x4 (x5 + (1 : Int32)) s
set_option maxRecDepth 20000 in
theorem f153_143_ok {n d : Nat} {r92 : Int32 → Int32 → Int32 → Int32 → zσ → Option (Int32 × zσ)} {x2 : Int32} {x3 : Int32} {x4 : Int32} {x5 : Int32} {s : zσ} {v : Int32} {s2 : zσ} (hd : 1 ≤ d) (hr92 : ∀ (x2 : Int32) (x3 : Int32) (x4 : Int32) (x5 : Int32) (s : zσ) (v : Int32) (s2 : zσ), r92 x2 x3 x4 x5 s = some (v, s2) → ∀ {w : zσ} {fz : Bool} {L : Nat} {xs : Nat → Int32}, zGo (zX fz L xs) d q_153 (92, [(0, .ref 1007), (2, .int x2), (3, .int x3), (4, .int x4), (5, .int x5)], [], zmk s w, 0, 0) (some (.int v), zmk s2 w, 0, 0)) (h : f153_143 n r92 x2 x3 x4 x5 s = some (v, s2)) {w : zσ} {fz : Bool} {L : Nat} {xs : Nat → Int32} : zGo (zX fz L xs) d q_153 (143, [(0, .ref 1007), (2, .int x2), (3, .int x3), (4, .int x4), (5, .int x5)], [], zmk s w, 0, 0) (some (.int v), zmk s2 w, 0, 0) := by
  obtain ⟨d, rfl⟩ : ∃ d0, d = d0 + 1 := ⟨d - 1, by omega⟩
  unfold f153_143 at h
  refine zGo_s (pc' := 146) (st' := []) (lv' := [(5, .int (x5 + (1 : Int32))), (0, .ref 1007), (2, .int x2), (3, .int x3), (4, .int x4)]) dd153_143 rfl ?_
  refine zGo_s (pc' := 92) (st' := []) dd153_146 rfl ?_
  exact zGo_lv (lv := [(0, .ref 1007), (2, .int x2), (3, .int x3), (4, .int x4), (5, .int (x5 + (1 : Int32)))]) ⟨by simp, by simp, by simp⟩ (hr92 _ _ _ _ _ _ _ h)
def f153_92 (n : Nat) : Nat → Int32 → Int32 → Int32 → Int32 → zσ → Option (Int32 × zσ)
  | 0, _, _, _, _, _ => none
  | j + 1, x2, x3, x4, x5, s =>
    if x5 < (s.1 1007 12) then
    zrd 6 (s.2.2 1007 9) fun a1 =>
    if zin? x2 200 = true then
    if (s.1 (a1 + 1) (nx x2)) = (161 : Int32) then
    if zin? ((x3 * (8 : Int32)) + x5) 32 = true then
    if (0 : Int32) < (s.1 1017 (nx ((x3 * (8 : Int32)) + x5))) then
    zlet ((x4 ||| ((1 : Int32) <<< (x5 &&& 31)))) fun v2 =>
    f153_143 n (f153_92 n j) x2 x3 v2 x5 s
    else f153_143 n (f153_92 n j) x2 x3 x4 x5 s
    else none
    else f153_143 n (f153_92 n j) x2 x3 x4 x5 s
    else none
    else some (x4, s)
set_option maxRecDepth 20000 in
theorem f153_92_ok {n d : Nat} (hd : 1 ≤ d) : ∀ (j : Nat) (x2 : Int32) (x3 : Int32) (x4 : Int32) (x5 : Int32) (s : zσ) (v : Int32) (s2 : zσ), f153_92 n j x2 x3 x4 x5 s = some (v, s2) → ∀ {w : zσ} {fz : Bool} {L : Nat} {xs : Nat → Int32}, zGo (zX fz L xs) d q_153 (92, [(0, .ref 1007), (2, .int x2), (3, .int x3), (4, .int x4), (5, .int x5)], [], zmk s w, 0, 0) (some (.int v), zmk s2 w, 0, 0) := by
  obtain ⟨d, rfl⟩ : ∃ d0, d = d0 + 1 := ⟨d - 1, by omega⟩
  intro j
  induction j with
  | zero => intro x2 x3 x4 x5 s v s2 h; cases h
  | succ j ih =>
    intro x2 x3 x4 x5 s v s2 h w fz L xs
    rw [f153_92] at h
    refine zGo_s (pc' := 94) (st' := [.int x5]) dd153_92 rfl ?_
    refine zGo_s (pc' := 95) (st' := [.ref 1007, .int x5]) dd153_94 rfl ?_
    refine cGI dd153_95 rfl rfl rfl rfl ?_
    rcases oite h with ⟨hc, h⟩ | ⟨hc, h⟩
    · refine zIF dd153_98 (kGeF hc) ?_
      refine zGo_s (pc' := 102) (st' := [.ref 1007]) dd153_101 rfl ?_
      obtain ⟨a1, e_a1, c_a1, h⟩ := ordd h
      refine cGR dd153_102 rfl rfl rfl rfl e_a1 ?_
      refine cGF (e := (a1 + 1)) dd153_105 rfl (ck6_s c_a1).1 (ck6_s c_a1).2 rfl (cf6_0 c_a1).1 ?_
      refine zGo_s (pc' := 109) (st' := [.int x2, .ref (a1 + 1)]) dd153_108 rfl ?_
      obtain ⟨hi, h⟩ := ochk h
      refine cIA dd153_109 (cf6_0 c_a1).2.1 (cf6_0 c_a1).2.2 hi ?_
      refine zGo_s (pc' := 113) (st' := [.int (161 : Int32), .int (s.1 (a1 + 1) (nx x2))]) dd153_110 rfl ?_
      rcases oite h with ⟨hc, h⟩ | ⟨hc, h⟩
      · refine zIF dd153_113 (kNeF hc) ?_
        refine zGo_s (pc' := 117) (st' := [.ref 1007]) dd153_116 rfl ?_
        refine cGF (e := 1014) dd153_117 rfl rfl rfl rfl rfl ?_
        refine cGF (e := 1017) dd153_120 rfl rfl rfl rfl rfl ?_
        refine zGo_s (pc' := 124) (st' := [.int x3, .ref 1017]) dd153_123 rfl ?_
        refine zGo_s (pc' := 126) (st' := [.int (8 : Int32), .int x3, .ref 1017]) dd153_124 rfl ?_
        refine zGo_s (pc' := 127) (st' := [.int (x3 * (8 : Int32)), .ref 1017]) dd153_126 rfl ?_
        refine zGo_s (pc' := 129) (st' := [.int x5, .int (x3 * (8 : Int32)), .ref 1017]) dd153_127 rfl ?_
        refine zGo_s (pc' := 130) (st' := [.int ((x3 * (8 : Int32)) + x5), .ref 1017]) dd153_129 rfl ?_
        obtain ⟨hi, h⟩ := ochk h
        refine cIA dd153_130 rfl rfl hi ?_
        rcases oite h with ⟨hc, h⟩ | ⟨hc, h⟩
        · refine zUF dd153_131 (kLeF hc) ?_
          refine zGo_s (pc' := 136) (st' := [.int x4]) dd153_134 rfl ?_
          refine zGo_s (pc' := 137) (st' := [.int (1 : Int32), .int x4]) dd153_136 rfl ?_
          refine zGo_s (pc' := 139) (st' := [.int x5, .int (1 : Int32), .int x4]) dd153_137 rfl ?_
          refine zGo_s (pc' := 140) (st' := [.int ((1 : Int32) <<< (x5 &&& 31)), .int x4]) dd153_139 rfl ?_
          refine zGo_s (pc' := 141) (st' := [.int (x4 ||| ((1 : Int32) <<< (x5 &&& 31)))]) dd153_140 rfl ?_
          obtain ⟨v2, e_v2, h⟩ := olet h
          refine zGo_is1 e_v2 dd153_141 (x' := (143, [(4, .int v2), (0, .ref 1007), (2, .int x2), (3, .int x3), (5, .int x5)], [], _, _, _)) rfl ?_
          exact zGo_lv (lv := [(0, .ref 1007), (2, .int x2), (3, .int x3), (4, .int v2), (5, .int x5)]) ⟨by simp, by simp, by simp⟩ (f153_143_ok hd ih h)
        · refine zUT dd153_131 rfl (kLeT hc) ?_
          exact f153_143_ok hd ih h
      · refine zIT dd153_113 rfl (kNeT hc) ?_
        exact f153_143_ok hd ih h
    · refine zIT dd153_98 rfl (kGeT hc) ?_
      refine zGo_s (pc' := 151) (st' := [.int x4]) dd153_149 rfl ?_
      obtain ⟨rfl, rfl⟩ := oret h
      exact zGo_ret dd153_151 rfl rfl
def f153_87 (n : Nat) (x2 : Int32) (x3 : Int32) (y0 : Int32) (s : zσ) : Option (Int32 × zσ) :=
    f153_92 n n x2 x3 y0 (0 : Int32) s
set_option maxRecDepth 20000 in
theorem f153_87_ok {n d : Nat} {x2 : Int32} {x3 : Int32} {y0 : Int32} {s : zσ} {v : Int32} {s2 : zσ} (hd : 1 ≤ d) (h : f153_87 n x2 x3 y0 s = some (v, s2)) {w : zσ} {fz : Bool} {L : Nat} {xs : Nat → Int32} : zGo (zX fz L xs) d q_153 (87, [(0, .ref 1007), (2, .int x2), (3, .int x3)], [.int y0], zmk s w, 0, 0) (some (.int v), zmk s2 w, 0, 0) := by
  obtain ⟨d, rfl⟩ : ∃ d0, d = d0 + 1 := ⟨d - 1, by omega⟩
  unfold f153_87 at h
  refine zGo_s (pc' := 89) (st' := []) (lv' := [(4, .int y0), (0, .ref 1007), (2, .int x2), (3, .int x3)]) dd153_87 rfl ?_
  refine zGo_s (pc' := 90) (st' := [.int (0 : Int32)]) dd153_89 rfl ?_
  refine zGo_s (pc' := 92) (st' := []) (lv' := [(5, .int (0 : Int32)), (4, .int y0), (0, .ref 1007), (2, .int x2), (3, .int x3)]) dd153_90 rfl ?_
  exact zGo_lv (lv := [(0, .ref 1007), (2, .int x2), (3, .int x3), (4, .int y0), (5, .int (0 : Int32))]) ⟨by simp, by simp, by simp⟩ (f153_92_ok hd _ _ _ _ _ _ _ _ h)
def f153_49 (n : Nat) (x2 : Int32) (s : zσ) : Option (Int32 × zσ) :=
    zrd 6 (s.2.2 1007 9) fun a1 =>
    if zin? x2 200 = true then
    zlet ((s.1 (a1 + 2) (nx x2))) fun v2 =>
    if zin? v2 4 = true then
    if (s.1 1016 (nx v2)) = (-1 : Int32) then
    f153_87 n x2 v2 (0 : Int32) s
    else if zin? v2 4 = true then
    f153_87 n x2 v2 ((1 : Int32) <<< ((s.1 1016 (nx v2)) &&& 31)) s
    else none
    else none
    else none
set_option maxRecDepth 20000 in
theorem f153_49_ok {n d : Nat} {x2 : Int32} {s : zσ} {v : Int32} {s2 : zσ} (hd : 1 ≤ d) (h : f153_49 n x2 s = some (v, s2)) {w : zσ} {fz : Bool} {L : Nat} {xs : Nat → Int32} : zGo (zX fz L xs) d q_153 (49, [(0, .ref 1007), (2, .int x2)], [], zmk s w, 0, 0) (some (.int v), zmk s2 w, 0, 0) := by
  obtain ⟨d, rfl⟩ : ∃ d0, d = d0 + 1 := ⟨d - 1, by omega⟩
  unfold f153_49 at h
  refine zGo_s (pc' := 50) (st' := [.ref 1007]) dd153_49 rfl ?_
  obtain ⟨a1, e_a1, c_a1, h⟩ := ordd h
  refine cGR dd153_50 rfl rfl rfl rfl e_a1 ?_
  refine cGF (e := (a1 + 2)) dd153_53 rfl (ck6_s c_a1).1 (ck6_s c_a1).2 rfl (cf6_1 c_a1).1 ?_
  refine zGo_s (pc' := 57) (st' := [.int x2, .ref (a1 + 2)]) dd153_56 rfl ?_
  obtain ⟨hi, h⟩ := ochk h
  refine cIA dd153_57 (cf6_1 c_a1).2.1 (cf6_1 c_a1).2.2 hi ?_
  obtain ⟨v2, e_v2, h⟩ := olet h
  refine zGo_is1 e_v2 dd153_58 (x' := (59, [(3, .int v2), (0, .ref 1007), (2, .int x2)], [], _, _, _)) rfl ?_
  refine zGo_s (pc' := 60) (st' := [.ref 1007]) dd153_59 rfl ?_
  refine cGF (e := 1014) dd153_60 rfl rfl rfl rfl rfl ?_
  refine cGF (e := 1016) dd153_63 rfl rfl rfl rfl rfl ?_
  refine zGo_s (pc' := 67) (st' := [.int v2, .ref 1016]) dd153_66 rfl ?_
  obtain ⟨hi, h⟩ := ochk h
  refine cIA dd153_67 rfl rfl hi ?_
  refine zGo_s (pc' := 69) (st' := [.int (-1 : Int32), .int (s.1 1016 (nx v2))]) dd153_68 rfl ?_
  rcases oite h with ⟨hc, h⟩ | ⟨hc, h⟩
  · refine zIF dd153_69 (kNeF hc) ?_
    refine zGo_s (pc' := 73) (st' := [.int (0 : Int32)]) dd153_72 rfl ?_
    refine zGo_s (pc' := 87) (st' := [.int (0 : Int32)]) dd153_73 rfl ?_
    exact zGo_lv (lv := [(0, .ref 1007), (2, .int x2), (3, .int v2)]) ⟨by simp, by simp, by simp⟩ (f153_87_ok hd h)
  · refine zIT dd153_69 rfl (kNeT hc) ?_
    refine zGo_s (pc' := 77) (st' := [.int (1 : Int32)]) dd153_76 rfl ?_
    refine zGo_s (pc' := 78) (st' := [.ref 1007, .int (1 : Int32)]) dd153_77 rfl ?_
    refine cGF (e := 1014) dd153_78 rfl rfl rfl rfl rfl ?_
    refine cGF (e := 1016) dd153_81 rfl rfl rfl rfl rfl ?_
    refine zGo_s (pc' := 85) (st' := [.int v2, .ref 1016, .int (1 : Int32)]) dd153_84 rfl ?_
    obtain ⟨hi, h⟩ := ochk h
    refine cIA dd153_85 rfl rfl hi ?_
    refine zGo_s (pc' := 87) (st' := [.int ((1 : Int32) <<< ((s.1 1016 (nx v2)) &&& 31))]) dd153_86 rfl ?_
    exact zGo_lv (lv := [(0, .ref 1007), (2, .int x2), (3, .int v2)]) ⟨by simp, by simp, by simp⟩ (f153_87_ok hd h)
def f153 (n : Nat) (x1 : Nat) (s : zσ) : Option (Int32 × zσ) :=
    if zin? (s.1 x1 10) 9 = true then
    zlet ((s.1 (x1 + 1) (nx (s.1 x1 10)))) fun v1 =>
    yb1 (f112 n x1 s) fun v3 u2 =>
    if v3 = (0 : Int32) then
    some ((0 : Int32), u2)
    else zrd 6 (u2.2.2 1007 9) fun a4 =>
    if zin? v1 200 = true then
    if (u2.1 (a4 + 1) (nx v1)) = (161 : Int32) then
    f153_49 n v1 u2
    else zrd 6 (u2.2.2 1007 9) fun a5 =>
    if zin? v1 200 = true then
    if (u2.1 (a5 + 1) (nx v1)) = (163 : Int32) then
    f153_49 n v1 u2
    else some ((0 : Int32), u2)
    else none
    else none
    else none
set_option maxRecDepth 20000 in
theorem f153_ok {n d : Nat} {x1 : Nat} {s : zσ} {v : Int32} {s2 : zσ} (hd : 1 ≤ d) (hx1 : zck 8 x1 = true) (h : f153 n x1 s = some (v, s2)) {w : zσ} {fz : Bool} {L : Nat} {xs : Nat → Int32} : zGo (zX fz L xs) d q_153 (0, [(0, .ref 1007), (1, .ref x1)], [], zmk s w, 0, 0) (some (.int v), zmk s2 w, 0, 0) := by
  obtain ⟨d, rfl⟩ : ∃ d0, d = d0 + 1 := ⟨d - 1, by omega⟩
  unfold f153 at h
  refine zGo_s (pc' := 1) (st' := [.ref x1]) dd153_0 rfl ?_
  refine cGF (e := (x1 + 1)) dd153_1 rfl (ck8_s hx1).1 (ck8_s hx1).2 rfl (cf8_1 hx1).1 ?_
  refine zGo_s (pc' := 5) (st' := [.ref x1, .ref (x1 + 1)]) dd153_4 rfl ?_
  refine cGI dd153_5 rfl (ck8_s hx1).1 (ck8_s hx1).2 rfl ?_
  obtain ⟨hi, h⟩ := ochk h
  refine cIA dd153_8 (cf8_1 hx1).2.1 (cf8_1 hx1).2.2 hi ?_
  obtain ⟨v1, e_v1, h⟩ := olet h
  refine zGo_is1 e_v1 dd153_9 (x' := (10, [(2, .int v1), (0, .ref 1007), (1, .ref x1)], [], _, _, _)) rfl ?_
  refine zGo_s (pc' := 11) (st' := [.ref x1]) dd153_10 rfl ?_
  obtain ⟨v3, u2, hq, h⟩ := obnd h
  refine zCV1 (As := []) (rest := []) (b := x1) (q' := q_112) dd153_11 rfl rfl (rcv_c (ck8_s hx1).1 (ck8_s hx1).2 (by decide)) rfl rfl rfl (f112_ok (d := d) (by omega) hx1 hq) ?_
  rcases oite h with ⟨hc, h⟩ | ⟨hc, h⟩
  · refine zUT dd153_14 rfl (kEqT hc) ?_
    refine zGo_s (pc' := 48) (st' := [.int (0 : Int32)]) dd153_47 rfl ?_
    obtain ⟨rfl, rfl⟩ := oret h
    exact zGo_ret dd153_48 rfl rfl
  · refine zUF dd153_14 (kEqF hc) ?_
    refine zGo_s (pc' := 18) (st' := [.ref 1007]) dd153_17 rfl ?_
    obtain ⟨a4, e_a4, c_a4, h⟩ := ordd h
    refine cGR dd153_18 rfl rfl rfl rfl e_a4 ?_
    refine cGF (e := (a4 + 1)) dd153_21 rfl (ck6_s c_a4).1 (ck6_s c_a4).2 rfl (cf6_0 c_a4).1 ?_
    refine zGo_s (pc' := 25) (st' := [.int v1, .ref (a4 + 1)]) dd153_24 rfl ?_
    obtain ⟨hi, h⟩ := ochk h
    refine cIA dd153_25 (cf6_0 c_a4).2.1 (cf6_0 c_a4).2.2 hi ?_
    refine zGo_s (pc' := 29) (st' := [.int (161 : Int32), .int (u2.1 (a4 + 1) (nx v1))]) dd153_26 rfl ?_
    rcases oite h with ⟨hc, h⟩ | ⟨hc, h⟩
    · refine zIT dd153_29 rfl (kEqT hc) ?_
      exact zGo_lv (lv := [(0, .ref 1007), (2, .int v1)]) ⟨by simp, by simp, by simp⟩ (f153_49_ok hd h)
    · refine zIF dd153_29 (kEqF hc) ?_
      refine zGo_s (pc' := 33) (st' := [.ref 1007]) dd153_32 rfl ?_
      obtain ⟨a5, e_a5, c_a5, h⟩ := ordd h
      refine cGR dd153_33 rfl rfl rfl rfl e_a5 ?_
      refine cGF (e := (a5 + 1)) dd153_36 rfl (ck6_s c_a5).1 (ck6_s c_a5).2 rfl (cf6_0 c_a5).1 ?_
      refine zGo_s (pc' := 40) (st' := [.int v1, .ref (a5 + 1)]) dd153_39 rfl ?_
      obtain ⟨hi, h⟩ := ochk h
      refine cIA dd153_40 (cf6_0 c_a5).2.1 (cf6_0 c_a5).2.2 hi ?_
      refine zGo_s (pc' := 44) (st' := [.int (163 : Int32), .int (u2.1 (a5 + 1) (nx v1))]) dd153_41 rfl ?_
      rcases oite h with ⟨hc, h⟩ | ⟨hc, h⟩
      · refine zIT dd153_44 rfl (kEqT hc) ?_
        exact zGo_lv (lv := [(0, .ref 1007), (2, .int v1)]) ⟨by simp, by simp, by simp⟩ (f153_49_ok hd h)
      · refine zIF dd153_44 (kEqF hc) ?_
        refine zGo_s (pc' := 48) (st' := [.int (0 : Int32)]) dd153_47 rfl ?_
        obtain ⟨rfl, rfl⟩ := oret h
        exact zGo_ret dd153_48 rfl rfl
