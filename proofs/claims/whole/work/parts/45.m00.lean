/-! PH.feed(JI)I -/
theorem dd19_0 : decode cX11_feed 0 = .ok (.iload_n 3, 1) := by decide +kernel
theorem dd19_1 : decode cX11_feed 1 = .ok (.ifCond .lt 9, 3) := by decide +kernel
theorem dd19_4 : decode cX11_feed 4 = .ok (.iload_n 3, 1) := by decide +kernel
theorem dd19_5 : decode cX11_feed 5 = .ok (.bipush 8, 2) := by decide +kernel
theorem dd19_7 : decode cX11_feed 7 = .ok (.if_icmp .le 6, 3) := by decide +kernel
theorem dd19_10 : decode cX11_feed 10 = .ok (.bipush (-2), 2) := by decide +kernel
theorem dd19_12 : decode cX11_feed 12 = .ok (.ireturn, 1) := by decide +kernel
theorem dd19_13 : decode cX11_feed 13 = .ok (.iload_n 3, 1) := by decide +kernel
theorem dd19_14 : decode cX11_feed 14 = .ok (.ifCond .ne 13, 3) := by decide +kernel
theorem dd19_17 : decode cX11_feed 17 = .ok (.aload_n 0, 1) := by decide +kernel
theorem dd19_18 : decode cX11_feed 18 = .ok (.getfield 10, 3) := by decide +kernel
theorem dd19_21 : decode cX11_feed 21 = .ok (.iconst 0, 1) := by decide +kernel
theorem dd19_22 : decode cX11_feed 22 = .ok (.putfield 53, 3) := by decide +kernel
theorem dd19_25 : decode cX11_feed 25 = .ok (.iconst 0, 1) := by decide +kernel
theorem dd19_26 : decode cX11_feed 26 = .ok (.ireturn, 1) := by decide +kernel
theorem dd19_27 : decode cX11_feed 27 = .ok (.aload_n 0, 1) := by decide +kernel
theorem dd19_28 : decode cX11_feed 28 = .ok (.getfield 10, 3) := by decide +kernel
theorem dd19_31 : decode cX11_feed 31 = .ok (.getfield 53, 3) := by decide +kernel
theorem dd19_34 : decode cX11_feed 34 = .ok (.iload_n 3, 1) := by decide +kernel
theorem dd19_35 : decode cX11_feed 35 = .ok (.iadd, 1) := by decide +kernel
theorem dd19_36 : decode cX11_feed 36 = .ok (.sipush 4000, 3) := by decide +kernel
theorem dd19_39 : decode cX11_feed 39 = .ok (.if_icmp .le 6, 3) := by decide +kernel
theorem dd19_42 : decode cX11_feed 42 = .ok (.bipush (-4), 2) := by decide +kernel
theorem dd19_44 : decode cX11_feed 44 = .ok (.ireturn, 1) := by decide +kernel
theorem dd19_45 : decode cX11_feed 45 = .ok (.iload_n 3, 1) := by decide +kernel
theorem dd19_46 : decode cX11_feed 46 = .ok (.iconst 1, 1) := by decide +kernel
theorem dd19_47 : decode cX11_feed 47 = .ok (.isub, 1) := by decide +kernel
theorem dd19_48 : decode cX11_feed 48 = .ok (.istore 4, 2) := by decide +kernel
theorem dd19_50 : decode cX11_feed 50 = .ok (.iload 4, 2) := by decide +kernel
theorem dd19_52 : decode cX11_feed 52 = .ok (.ifCond .lt 40, 3) := by decide +kernel
theorem dd19_55 : decode cX11_feed 55 = .ok (.aload_n 0, 1) := by decide +kernel
theorem dd19_56 : decode cX11_feed 56 = .ok (.getfield 10, 3) := by decide +kernel
theorem dd19_59 : decode cX11_feed 59 = .ok (.getfield 56, 3) := by decide +kernel
theorem dd19_62 : decode cX11_feed 62 = .ok (.aload_n 0, 1) := by decide +kernel
theorem dd19_63 : decode cX11_feed 63 = .ok (.getfield 10, 3) := by decide +kernel
theorem dd19_66 : decode cX11_feed 66 = .ok (.dup, 1) := by decide +kernel
theorem dd19_67 : decode cX11_feed 67 = .ok (.getfield 53, 3) := by decide +kernel
theorem dd19_70 : decode cX11_feed 70 = .ok (.dup_x1, 1) := by decide +kernel
theorem dd19_71 : decode cX11_feed 71 = .ok (.iconst 1, 1) := by decide +kernel
theorem dd19_72 : decode cX11_feed 72 = .ok (.iadd, 1) := by decide +kernel
theorem dd19_73 : decode cX11_feed 73 = .ok (.putfield 53, 3) := by decide +kernel
theorem dd19_76 : decode cX11_feed 76 = .ok (.lload_n 1, 1) := by decide +kernel
theorem dd19_77 : decode cX11_feed 77 = .ok (.bipush 8, 2) := by decide +kernel
theorem dd19_79 : decode cX11_feed 79 = .ok (.iload 4, 2) := by decide +kernel
theorem dd19_81 : decode cX11_feed 81 = .ok (.imul, 1) := by decide +kernel
theorem dd19_82 : decode cX11_feed 82 = .ok (.lushr, 1) := by decide +kernel
theorem dd19_83 : decode cX11_feed 83 = .ok (.l2i, 1) := by decide +kernel
theorem dd19_84 : decode cX11_feed 84 = .ok (.i2b, 1) := by decide +kernel
theorem dd19_85 : decode cX11_feed 85 = .ok (.bastore, 1) := by decide +kernel
theorem dd19_86 : decode cX11_feed 86 = .ok (.iinc 4 (-1), 3) := by decide +kernel
theorem dd19_89 : decode cX11_feed 89 = .ok (.goto (-39), 3) := by decide +kernel
theorem dd19_92 : decode cX11_feed 92 = .ok (.aload_n 0, 1) := by decide +kernel
theorem dd19_93 : decode cX11_feed 93 = .ok (.getfield 10, 3) := by decide +kernel
theorem dd19_96 : decode cX11_feed 96 = .ok (.getfield 53, 3) := by decide +kernel
theorem dd19_99 : decode cX11_feed 99 = .ok (.ireturn, 1) := by decide +kernel
def f19_50 (n : Nat) : Nat → Int64 → Int32 → zσ → Option (Int32 × zσ)
  | 0, _, _, _ => none
  | j + 1, x1, x4, s =>
    if x4 < (0 : Int32) then
    some ((s.1 1001 2), s)
    else zlet (sI s 1001 2 ((s.1 1001 2) + (1 : Int32))) fun u1 =>
    if zin? (s.1 1001 2) 4000 = true then
    zlet (sI u1 1002 (nx (s.1 1001 2)) (vp_nar .byte (((((x1).toUInt64 >>> (((8 : Int32) * x4).toInt64.toUInt64 &&& Int64.toUInt64 63)).toInt64).toInt32).toInt8.toInt32))) fun u2 =>
    f19_50 n j x1 (x4 + (-1 : Int32)) u2
    else none
set_option maxRecDepth 20000 in
theorem f19_50_ok {n d : Nat} (hd : 0 ≤ d) : ∀ (j : Nat) (x1 : Int64) (x4 : Int32) (s : zσ) (v : Int32) (s2 : zσ), f19_50 n j x1 x4 s = some (v, s2) → ∀ {w : zσ} {fz : Bool} {L : Nat} {xs : Nat → Int32}, zGo (zX fz L xs) d q_19 (50, [(0, .ref 1000), (1, .long x1), (4, .int x4)], [], zmk s w, 0, 0) (some (.int v), zmk s2 w, 0, 0) := by
  intro j
  induction j with
  | zero => intro x1 x4 s v s2 h; cases h
  | succ j ih =>
    intro x1 x4 s v s2 h w fz L xs
    rw [f19_50] at h
    refine zGo_s (pc' := 52) (st' := [.int x4]) dd19_50 rfl ?_
    rcases oite h with ⟨hc, h⟩ | ⟨hc, h⟩
    · refine zUT dd19_52 rfl (kLtT hc) ?_
      refine zGo_s (pc' := 93) (st' := [.ref 1000]) dd19_92 rfl ?_
      refine cGF (e := 1001) dd19_93 rfl rfl rfl rfl rfl ?_
      refine cGI dd19_96 rfl rfl rfl rfl ?_
      obtain ⟨rfl, rfl⟩ := oret h
      exact zGo_ret dd19_99 rfl rfl
    · refine zUF dd19_52 (kLtF hc) ?_
      refine zGo_s (pc' := 56) (st' := [.ref 1000]) dd19_55 rfl ?_
      refine cGF (e := 1001) dd19_56 rfl rfl rfl rfl rfl ?_
      refine cGF (e := 1002) dd19_59 rfl rfl rfl rfl rfl ?_
      refine zGo_s (pc' := 63) (st' := [.ref 1000, .ref 1002]) dd19_62 rfl ?_
      refine cGF (e := 1001) dd19_63 rfl rfl rfl rfl rfl ?_
      refine zGo_s (pc' := 67) (st' := [.ref 1001, .ref 1001, .ref 1002]) dd19_66 rfl ?_
      refine cGI dd19_67 rfl rfl rfl rfl ?_
      refine zGo_s (pc' := 71) (st' := [.int (s.1 1001 2), .ref 1001, .int (s.1 1001 2), .ref 1002]) dd19_70 rfl ?_
      refine zGo_s (pc' := 72) (st' := [.int (1 : Int32), .int (s.1 1001 2), .ref 1001, .int (s.1 1001 2), .ref 1002]) dd19_71 rfl ?_
      refine zGo_s (pc' := 73) (st' := [.int ((s.1 1001 2) + (1 : Int32)), .ref 1001, .int (s.1 1001 2), .ref 1002]) dd19_72 rfl ?_
      obtain ⟨u1, e_u1, h⟩ := olet h
      refine cPI dd19_73 rfl rfl rfl rfl rfl rfl e_u1 ?_
      refine zGo_s (pc' := 77) (st' := [.long x1, .int (s.1 1001 2), .ref 1002]) dd19_76 rfl ?_
      refine zGo_s (pc' := 79) (st' := [.int (8 : Int32), .long x1, .int (s.1 1001 2), .ref 1002]) dd19_77 rfl ?_
      refine zGo_s (pc' := 81) (st' := [.int x4, .int (8 : Int32), .long x1, .int (s.1 1001 2), .ref 1002]) dd19_79 rfl ?_
      refine zGo_s (pc' := 82) (st' := [.int ((8 : Int32) * x4), .long x1, .int (s.1 1001 2), .ref 1002]) dd19_81 rfl ?_
      refine zGo_s (pc' := 83) (st' := [.long (((x1).toUInt64 >>> (((8 : Int32) * x4).toInt64.toUInt64 &&& Int64.toUInt64 63)).toInt64), .int (s.1 1001 2), .ref 1002]) dd19_82 rfl ?_
      refine zGo_s (pc' := 84) (st' := [.int ((((x1).toUInt64 >>> (((8 : Int32) * x4).toInt64.toUInt64 &&& Int64.toUInt64 63)).toInt64).toInt32), .int (s.1 1001 2), .ref 1002]) dd19_83 rfl ?_
      refine zGo_s (pc' := 85) (st' := [.int (((((x1).toUInt64 >>> (((8 : Int32) * x4).toInt64.toUInt64 &&& Int64.toUInt64 63)).toInt64).toInt32).toInt8.toInt32), .int (s.1 1001 2), .ref 1002]) dd19_84 rfl ?_
      obtain ⟨hi, h⟩ := ochk h
      obtain ⟨u2, e_u2, h⟩ := olet h
      refine cBS dd19_85 rfl rfl rfl hi e_u2 ?_
      refine zGo_s (pc' := 89) (st' := []) (lv' := [(4, .int (x4 + (-1 : Int32))), (0, .ref 1000), (1, .long x1)]) dd19_86 rfl ?_
      refine zGo_s (pc' := 50) (st' := []) dd19_89 rfl ?_
      exact zGo_lv (lv := [(0, .ref 1000), (1, .long x1), (4, .int (x4 + (-1 : Int32)))]) ⟨by simp, by simp, by simp⟩ (ih _ _ _ _ _ h)
def f19 (n : Nat) (x1 : Int64) (x3 : Int32) (s : zσ) : Option (Int32 × zσ) :=
    if x3 < (0 : Int32) then
    some ((-2 : Int32), s)
    else if (8 : Int32) < x3 then
    some ((-2 : Int32), s)
    else if x3 = (0 : Int32) then
    zlet (sI s 1001 2 (0 : Int32)) fun u2 =>
    some ((0 : Int32), u2)
    else if (4000 : Int32) < ((s.1 1001 2) + x3) then
    some ((-4 : Int32), s)
    else zlet ((x3 - (1 : Int32))) fun v1 =>
    f19_50 n n x1 v1 s
set_option maxRecDepth 20000 in
theorem f19_ok {n d : Nat} {x1 : Int64} {x3 : Int32} {s : zσ} {v : Int32} {s2 : zσ} (hd : 0 ≤ d) (h : f19 n x1 x3 s = some (v, s2)) {w : zσ} {fz : Bool} {L : Nat} {xs : Nat → Int32} : zGo (zX fz L xs) d q_19 (0, [(0, .ref 1000), (1, .long x1), (3, .int x3)], [], zmk s w, 0, 0) (some (.int v), zmk s2 w, 0, 0) := by
  unfold f19 at h
  refine zGo_s (pc' := 1) (st' := [.int x3]) dd19_0 rfl ?_
  rcases oite h with ⟨hc, h⟩ | ⟨hc, h⟩
  · refine zUT dd19_1 rfl (kLtT hc) ?_
    refine zGo_s (pc' := 12) (st' := [.int (-2 : Int32)]) dd19_10 rfl ?_
    obtain ⟨rfl, rfl⟩ := oret h
    exact zGo_ret dd19_12 rfl rfl
  · refine zUF dd19_1 (kLtF hc) ?_
    refine zGo_s (pc' := 5) (st' := [.int x3]) dd19_4 rfl ?_
    refine zGo_s (pc' := 7) (st' := [.int (8 : Int32), .int x3]) dd19_5 rfl ?_
    rcases oite h with ⟨hc, h⟩ | ⟨hc, h⟩
    · refine zIF dd19_7 (kLeF hc) ?_
      refine zGo_s (pc' := 12) (st' := [.int (-2 : Int32)]) dd19_10 rfl ?_
      obtain ⟨rfl, rfl⟩ := oret h
      exact zGo_ret dd19_12 rfl rfl
    · refine zIT dd19_7 rfl (kLeT hc) ?_
      refine zGo_s (pc' := 14) (st' := [.int x3]) dd19_13 rfl ?_
      rcases oite h with ⟨hc, h⟩ | ⟨hc, h⟩
      · refine zUF dd19_14 (kNeF hc) ?_
        refine zGo_s (pc' := 18) (st' := [.ref 1000]) dd19_17 rfl ?_
        refine cGF (e := 1001) dd19_18 rfl rfl rfl rfl rfl ?_
        refine zGo_s (pc' := 22) (st' := [.int (0 : Int32), .ref 1001]) dd19_21 rfl ?_
        obtain ⟨u2, e_u2, h⟩ := olet h
        refine cPI dd19_22 rfl rfl rfl rfl rfl rfl e_u2 ?_
        refine zGo_s (pc' := 26) (st' := [.int (0 : Int32)]) dd19_25 rfl ?_
        obtain ⟨rfl, rfl⟩ := oret h
        exact zGo_ret dd19_26 rfl rfl
      · refine zUT dd19_14 rfl (kNeT hc) ?_
        refine zGo_s (pc' := 28) (st' := [.ref 1000]) dd19_27 rfl ?_
        refine cGF (e := 1001) dd19_28 rfl rfl rfl rfl rfl ?_
        refine cGI dd19_31 rfl rfl rfl rfl ?_
        refine zGo_s (pc' := 35) (st' := [.int x3, .int (s.1 1001 2)]) dd19_34 rfl ?_
        refine zGo_s (pc' := 36) (st' := [.int ((s.1 1001 2) + x3)]) dd19_35 rfl ?_
        refine zGo_s (pc' := 39) (st' := [.int (4000 : Int32), .int ((s.1 1001 2) + x3)]) dd19_36 rfl ?_
        rcases oite h with ⟨hc, h⟩ | ⟨hc, h⟩
        · refine zIF dd19_39 (kLeF hc) ?_
          refine zGo_s (pc' := 44) (st' := [.int (-4 : Int32)]) dd19_42 rfl ?_
          obtain ⟨rfl, rfl⟩ := oret h
          exact zGo_ret dd19_44 rfl rfl
        · refine zIT dd19_39 rfl (kLeT hc) ?_
          refine zGo_s (pc' := 46) (st' := [.int x3]) dd19_45 rfl ?_
          refine zGo_s (pc' := 47) (st' := [.int (1 : Int32), .int x3]) dd19_46 rfl ?_
          refine zGo_s (pc' := 48) (st' := [.int (x3 - (1 : Int32))]) dd19_47 rfl ?_
          obtain ⟨v1, e_v1, h⟩ := olet h
          refine zGo_is1 e_v1 dd19_48 (x' := (50, [(4, .int v1), (0, .ref 1000), (1, .long x1), (3, .int x3)], [], _, _, _)) rfl ?_
          exact zGo_lv (lv := [(0, .ref 1000), (1, .long x1), (4, .int v1)]) ⟨by simp, by simp, by simp⟩ (f19_50_ok hd _ _ _ _ _ _ h)
/-! PH$Statements.clear()V -/
theorem dd24_0 : decode cX6_clear 0 = .ok (.aload_n 0, 1) := by decide +kernel
theorem dd24_1 : decode cX6_clear 1 = .ok (.iconst 0, 1) := by decide +kernel
theorem dd24_2 : decode cX6_clear 2 = .ok (.putfield 39, 3) := by decide +kernel
theorem dd24_5 : decode cX6_clear 5 = .ok (.aload_n 0, 1) := by decide +kernel
theorem dd24_6 : decode cX6_clear 6 = .ok (.iconst 0, 1) := by decide +kernel
theorem dd24_7 : decode cX6_clear 7 = .ok (.putfield 43, 3) := by decide +kernel
theorem dd24_10 : decode cX6_clear 10 = .ok (.aload_n 0, 1) := by decide +kernel
theorem dd24_11 : decode cX6_clear 11 = .ok (.iconst 0, 1) := by decide +kernel
theorem dd24_12 : decode cX6_clear 12 = .ok (.putfield 46, 3) := by decide +kernel
theorem dd24_15 : decode cX6_clear 15 = .ok (.return_, 1) := by decide +kernel
def f24 (n : Nat) (x0 : Nat) (s : zσ) : Option zσ :=
    zlet (sI s x0 9 (0 : Int32)) fun u1 =>
    zlet (sI u1 x0 10 (0 : Int32)) fun u2 =>
    zlet (sI u2 x0 11 (0 : Int32)) fun u3 =>
    some u3
set_option maxRecDepth 20000 in
theorem f24_ok {n d : Nat} {x0 : Nat} {s : zσ} {s2 : zσ} (hd : 0 ≤ d) (hx0 : zck 6 x0 = true) (h : f24 n x0 s = some s2) {w : zσ} {fz : Bool} {L : Nat} {xs : Nat → Int32} : zGo (zX fz L xs) d q_24 (0, [(0, .ref x0)], [], zmk s w, 0, 0) (none, zmk s2 w, 0, 0) := by
  unfold f24 at h
  refine zGo_s (pc' := 1) (st' := [.ref x0]) dd24_0 rfl ?_
  refine zGo_s (pc' := 2) (st' := [.int (0 : Int32), .ref x0]) dd24_1 rfl ?_
  obtain ⟨u1, e_u1, h⟩ := olet h
  refine cPI dd24_2 rfl (ck6_s hx0).1 (ck6_s hx0).2 rfl rfl rfl e_u1 ?_
  refine zGo_s (pc' := 6) (st' := [.ref x0]) dd24_5 rfl ?_
  refine zGo_s (pc' := 7) (st' := [.int (0 : Int32), .ref x0]) dd24_6 rfl ?_
  obtain ⟨u2, e_u2, h⟩ := olet h
  refine cPI dd24_7 rfl (ck6_s hx0).1 (ck6_s hx0).2 rfl rfl rfl e_u2 ?_
  refine zGo_s (pc' := 11) (st' := [.ref x0]) dd24_10 rfl ?_
  refine zGo_s (pc' := 12) (st' := [.int (0 : Int32), .ref x0]) dd24_11 rfl ?_
  obtain ⟨u3, e_u3, h⟩ := olet h
  refine cPI dd24_12 rfl (ck6_s hx0).1 (ck6_s hx0).2 rfl rfl rfl e_u3 ?_
  obtain rfl := ore0 h
  exact zGo_ret dd24_15 rfl rfl
/-! PH$Scanner.advance()V -/
theorem dd26_0 : decode cX5_advance 0 = .ok (.aload_n 0, 1) := by decide +kernel
theorem dd26_1 : decode cX5_advance 1 = .ok (.getfield 26, 3) := by decide +kernel
theorem dd26_4 : decode cX5_advance 4 = .ok (.iconst 4, 1) := by decide +kernel
theorem dd26_5 : decode cX5_advance 5 = .ok (.if_icmp .ne 4, 3) := by decide +kernel
theorem dd26_8 : decode cX5_advance 8 = .ok (.return_, 1) := by decide +kernel
theorem dd26_9 : decode cX5_advance 9 = .ok (.aload_n 0, 1) := by decide +kernel
theorem dd26_10 : decode cX5_advance 10 = .ok (.getfield 23, 3) := by decide +kernel
theorem dd26_13 : decode cX5_advance 13 = .ok (.aload_n 0, 1) := by decide +kernel
theorem dd26_14 : decode cX5_advance 14 = .ok (.getfield 19, 3) := by decide +kernel
theorem dd26_17 : decode cX5_advance 17 = .ok (.if_icmp .ge 44, 3) := by decide +kernel
theorem dd26_20 : decode cX5_advance 20 = .ok (.aload_n 0, 1) := by decide +kernel
theorem dd26_21 : decode cX5_advance 21 = .ok (.getfield 9, 3) := by decide +kernel
theorem dd26_24 : decode cX5_advance 24 = .ok (.aload_n 0, 1) := by decide +kernel
theorem dd26_25 : decode cX5_advance 25 = .ok (.getfield 23, 3) := by decide +kernel
theorem dd26_28 : decode cX5_advance 28 = .ok (.baload, 1) := by decide +kernel
theorem dd26_29 : decode cX5_advance 29 = .ok (.bipush 32, 2) := by decide +kernel
theorem dd26_31 : decode cX5_advance 31 = .ok (.if_icmp .eq 17, 3) := by decide +kernel
theorem dd26_34 : decode cX5_advance 34 = .ok (.aload_n 0, 1) := by decide +kernel
theorem dd26_35 : decode cX5_advance 35 = .ok (.getfield 9, 3) := by decide +kernel
theorem dd26_38 : decode cX5_advance 38 = .ok (.aload_n 0, 1) := by decide +kernel
theorem dd26_39 : decode cX5_advance 39 = .ok (.getfield 23, 3) := by decide +kernel
theorem dd26_42 : decode cX5_advance 42 = .ok (.baload, 1) := by decide +kernel
theorem dd26_43 : decode cX5_advance 43 = .ok (.bipush 10, 2) := by decide +kernel
theorem dd26_45 : decode cX5_advance 45 = .ok (.if_icmp .ne 16, 3) := by decide +kernel
theorem dd26_48 : decode cX5_advance 48 = .ok (.aload_n 0, 1) := by decide +kernel
theorem dd26_49 : decode cX5_advance 49 = .ok (.dup, 1) := by decide +kernel
theorem dd26_50 : decode cX5_advance 50 = .ok (.getfield 23, 3) := by decide +kernel
theorem dd26_53 : decode cX5_advance 53 = .ok (.iconst 1, 1) := by decide +kernel
theorem dd26_54 : decode cX5_advance 54 = .ok (.iadd, 1) := by decide +kernel
theorem dd26_55 : decode cX5_advance 55 = .ok (.putfield 23, 3) := by decide +kernel
theorem dd26_58 : decode cX5_advance 58 = .ok (.goto (-49), 3) := by decide +kernel
theorem dd26_61 : decode cX5_advance 61 = .ok (.aload_n 0, 1) := by decide +kernel
theorem dd26_62 : decode cX5_advance 62 = .ok (.aload_n 0, 1) := by decide +kernel
theorem dd26_63 : decode cX5_advance 63 = .ok (.getfield 23, 3) := by decide +kernel
theorem dd26_66 : decode cX5_advance 66 = .ok (.putfield 29, 3) := by decide +kernel
theorem dd26_69 : decode cX5_advance 69 = .ok (.aload_n 0, 1) := by decide +kernel
theorem dd26_70 : decode cX5_advance 70 = .ok (.getfield 23, 3) := by decide +kernel
theorem dd26_73 : decode cX5_advance 73 = .ok (.aload_n 0, 1) := by decide +kernel
theorem dd26_74 : decode cX5_advance 74 = .ok (.getfield 19, 3) := by decide +kernel
theorem dd26_77 : decode cX5_advance 77 = .ok (.if_icmp .lt 9, 3) := by decide +kernel
theorem dd26_80 : decode cX5_advance 80 = .ok (.aload_n 0, 1) := by decide +kernel
theorem dd26_81 : decode cX5_advance 81 = .ok (.iconst 3, 1) := by decide +kernel
theorem dd26_82 : decode cX5_advance 82 = .ok (.putfield 26, 3) := by decide +kernel
theorem dd26_85 : decode cX5_advance 85 = .ok (.return_, 1) := by decide +kernel
theorem dd26_86 : decode cX5_advance 86 = .ok (.aload_n 0, 1) := by decide +kernel
theorem dd26_87 : decode cX5_advance 87 = .ok (.getfield 9, 3) := by decide +kernel
theorem dd26_90 : decode cX5_advance 90 = .ok (.aload_n 0, 1) := by decide +kernel
theorem dd26_91 : decode cX5_advance 91 = .ok (.dup, 1) := by decide +kernel
theorem dd26_92 : decode cX5_advance 92 = .ok (.getfield 23, 3) := by decide +kernel
theorem dd26_95 : decode cX5_advance 95 = .ok (.dup_x1, 1) := by decide +kernel
theorem dd26_96 : decode cX5_advance 96 = .ok (.iconst 1, 1) := by decide +kernel
theorem dd26_97 : decode cX5_advance 97 = .ok (.iadd, 1) := by decide +kernel
theorem dd26_98 : decode cX5_advance 98 = .ok (.putfield 23, 3) := by decide +kernel
theorem dd26_101 : decode cX5_advance 101 = .ok (.baload, 1) := by decide +kernel
theorem dd26_102 : decode cX5_advance 102 = .ok (.sipush 255, 3) := by decide +kernel
theorem dd26_105 : decode cX5_advance 105 = .ok (.iand, 1) := by decide +kernel
theorem dd26_106 : decode cX5_advance 106 = .ok (.istore_n 1, 1) := by decide +kernel
theorem dd26_107 : decode cX5_advance 107 = .ok (.iload_n 1, 1) := by decide +kernel
theorem dd26_108 : decode cX5_advance 108 = .ok (.bipush 97, 2) := by decide +kernel
theorem dd26_110 : decode cX5_advance 110 = .ok (.if_icmp .lt 13, 3) := by decide +kernel
theorem dd26_113 : decode cX5_advance 113 = .ok (.iload_n 1, 1) := by decide +kernel
theorem dd26_114 : decode cX5_advance 114 = .ok (.bipush 122, 2) := by decide +kernel
theorem dd26_116 : decode cX5_advance 116 = .ok (.if_icmp .gt 7, 3) := by decide +kernel
theorem dd26_119 : decode cX5_advance 119 = .ok (.iconst 1, 1) := by decide +kernel
theorem dd26_120 : decode cX5_advance 120 = .ok (.goto 4, 3) := by decide +kernel
theorem dd26_123 : decode cX5_advance 123 = .ok (.iconst 0, 1) := by decide +kernel
theorem dd26_124 : decode cX5_advance 124 = .ok (.istore_n 2, 1) := by decide +kernel
theorem dd26_125 : decode cX5_advance 125 = .ok (.iload_n 2, 1) := by decide +kernel
theorem dd26_126 : decode cX5_advance 126 = .ok (.ifCond .ne 35, 3) := by decide +kernel
theorem dd26_129 : decode cX5_advance 129 = .ok (.iload_n 1, 1) := by decide +kernel
theorem dd26_130 : decode cX5_advance 130 = .ok (.bipush 48, 2) := by decide +kernel
theorem dd26_132 : decode cX5_advance 132 = .ok (.if_icmp .lt 9, 3) := by decide +kernel
theorem dd26_135 : decode cX5_advance 135 = .ok (.iload_n 1, 1) := by decide +kernel
theorem dd26_136 : decode cX5_advance 136 = .ok (.bipush 57, 2) := by decide +kernel
theorem dd26_138 : decode cX5_advance 138 = .ok (.if_icmp .le 23, 3) := by decide +kernel
theorem dd26_141 : decode cX5_advance 141 = .ok (.aload_n 0, 1) := by decide +kernel
theorem dd26_142 : decode cX5_advance 142 = .ok (.ldc 50, 2) := by decide +kernel
theorem dd26_144 : decode cX5_advance 144 = .ok (.iload_n 1, 1) := by decide +kernel
theorem dd26_145 : decode cX5_advance 145 = .ok (.i2c, 1) := by decide +kernel
theorem dd26_146 : decode cX5_advance 146 = .ok (.invokevirtual 52, 3) := by decide +kernel
theorem dd26_149 : decode cX5_advance 149 = .ok (.ifCond .lt 7, 3) := by decide +kernel
theorem dd26_152 : decode cX5_advance 152 = .ok (.iload_n 1, 1) := by decide +kernel
theorem dd26_153 : decode cX5_advance 153 = .ok (.goto 4, 3) := by decide +kernel
theorem dd26_156 : decode cX5_advance 156 = .ok (.iconst 0, 1) := by decide +kernel
theorem dd26_157 : decode cX5_advance 157 = .ok (.putfield 26, 3) := by decide +kernel
theorem dd26_160 : decode cX5_advance 160 = .ok (.return_, 1) := by decide +kernel
theorem dd26_161 : decode cX5_advance 161 = .ok (.aload_n 0, 1) := by decide +kernel
theorem dd26_162 : decode cX5_advance 162 = .ok (.iload_n 1, 1) := by decide +kernel
theorem dd26_163 : decode cX5_advance 163 = .ok (.i2l, 1) := by decide +kernel
theorem dd26_164 : decode cX5_advance 164 = .ok (.putfield 35, 3) := by decide +kernel
theorem dd26_167 : decode cX5_advance 167 = .ok (.aload_n 0, 1) := by decide +kernel
theorem dd26_168 : decode cX5_advance 168 = .ok (.iload_n 1, 1) := by decide +kernel
theorem dd26_169 : decode cX5_advance 169 = .ok (.bipush 48, 2) := by decide +kernel
theorem dd26_171 : decode cX5_advance 171 = .ok (.isub, 1) := by decide +kernel
theorem dd26_172 : decode cX5_advance 172 = .ok (.putfield 32, 3) := by decide +kernel
theorem dd26_175 : decode cX5_advance 175 = .ok (.aload_n 0, 1) := by decide +kernel
theorem dd26_176 : decode cX5_advance 176 = .ok (.getfield 23, 3) := by decide +kernel
theorem dd26_179 : decode cX5_advance 179 = .ok (.aload_n 0, 1) := by decide +kernel
theorem dd26_180 : decode cX5_advance 180 = .ok (.getfield 19, 3) := by decide +kernel
theorem dd26_183 : decode cX5_advance 183 = .ok (.if_icmp .ge 122, 3) := by decide +kernel
theorem dd26_186 : decode cX5_advance 186 = .ok (.aload_n 0, 1) := by decide +kernel
theorem dd26_187 : decode cX5_advance 187 = .ok (.getfield 9, 3) := by decide +kernel
theorem dd26_190 : decode cX5_advance 190 = .ok (.aload_n 0, 1) := by decide +kernel
theorem dd26_191 : decode cX5_advance 191 = .ok (.getfield 23, 3) := by decide +kernel
theorem dd26_194 : decode cX5_advance 194 = .ok (.baload, 1) := by decide +kernel
theorem dd26_195 : decode cX5_advance 195 = .ok (.bipush 48, 2) := by decide +kernel
theorem dd26_197 : decode cX5_advance 197 = .ok (.if_icmp .lt 17, 3) := by decide +kernel
theorem dd26_200 : decode cX5_advance 200 = .ok (.aload_n 0, 1) := by decide +kernel
theorem dd26_201 : decode cX5_advance 201 = .ok (.getfield 9, 3) := by decide +kernel
theorem dd26_204 : decode cX5_advance 204 = .ok (.aload_n 0, 1) := by decide +kernel
theorem dd26_205 : decode cX5_advance 205 = .ok (.getfield 23, 3) := by decide +kernel
theorem dd26_208 : decode cX5_advance 208 = .ok (.baload, 1) := by decide +kernel
theorem dd26_209 : decode cX5_advance 209 = .ok (.bipush 57, 2) := by decide +kernel
theorem dd26_211 : decode cX5_advance 211 = .ok (.if_icmp .le 35, 3) := by decide +kernel
theorem dd26_214 : decode cX5_advance 214 = .ok (.iload_n 2, 1) := by decide +kernel
theorem dd26_215 : decode cX5_advance 215 = .ok (.ifCond .eq 90, 3) := by decide +kernel
theorem dd26_218 : decode cX5_advance 218 = .ok (.aload_n 0, 1) := by decide +kernel
theorem dd26_219 : decode cX5_advance 219 = .ok (.getfield 9, 3) := by decide +kernel
theorem dd26_222 : decode cX5_advance 222 = .ok (.aload_n 0, 1) := by decide +kernel
theorem dd26_223 : decode cX5_advance 223 = .ok (.getfield 23, 3) := by decide +kernel
theorem dd26_226 : decode cX5_advance 226 = .ok (.baload, 1) := by decide +kernel
theorem dd26_227 : decode cX5_advance 227 = .ok (.bipush 97, 2) := by decide +kernel
theorem dd26_229 : decode cX5_advance 229 = .ok (.if_icmp .lt 76, 3) := by decide +kernel
theorem dd26_232 : decode cX5_advance 232 = .ok (.aload_n 0, 1) := by decide +kernel
theorem dd26_233 : decode cX5_advance 233 = .ok (.getfield 9, 3) := by decide +kernel
theorem dd26_236 : decode cX5_advance 236 = .ok (.aload_n 0, 1) := by decide +kernel
theorem dd26_237 : decode cX5_advance 237 = .ok (.getfield 23, 3) := by decide +kernel
theorem dd26_240 : decode cX5_advance 240 = .ok (.baload, 1) := by decide +kernel
theorem dd26_241 : decode cX5_advance 241 = .ok (.bipush 122, 2) := by decide +kernel
theorem dd26_243 : decode cX5_advance 243 = .ok (.if_icmp .gt 62, 3) := by decide +kernel
theorem dd26_246 : decode cX5_advance 246 = .ok (.aload_n 0, 1) := by decide +kernel
theorem dd26_247 : decode cX5_advance 247 = .ok (.aload_n 0, 1) := by decide +kernel
theorem dd26_248 : decode cX5_advance 248 = .ok (.getfield 35, 3) := by decide +kernel
theorem dd26_251 : decode cX5_advance 251 = .ok (.bipush 8, 2) := by decide +kernel
theorem dd26_253 : decode cX5_advance 253 = .ok (.lshl, 1) := by decide +kernel
theorem dd26_254 : decode cX5_advance 254 = .ok (.aload_n 0, 1) := by decide +kernel
theorem dd26_255 : decode cX5_advance 255 = .ok (.getfield 9, 3) := by decide +kernel
theorem dd26_258 : decode cX5_advance 258 = .ok (.aload_n 0, 1) := by decide +kernel
theorem dd26_259 : decode cX5_advance 259 = .ok (.getfield 23, 3) := by decide +kernel
theorem dd26_262 : decode cX5_advance 262 = .ok (.baload, 1) := by decide +kernel
theorem dd26_263 : decode cX5_advance 263 = .ok (.i2l, 1) := by decide +kernel
theorem dd26_264 : decode cX5_advance 264 = .ok (.lor, 1) := by decide +kernel
theorem dd26_265 : decode cX5_advance 265 = .ok (.putfield 35, 3) := by decide +kernel
theorem dd26_268 : decode cX5_advance 268 = .ok (.aload_n 0, 1) := by decide +kernel
theorem dd26_269 : decode cX5_advance 269 = .ok (.aload_n 0, 1) := by decide +kernel
theorem dd26_270 : decode cX5_advance 270 = .ok (.getfield 32, 3) := by decide +kernel
theorem dd26_273 : decode cX5_advance 273 = .ok (.bipush 10, 2) := by decide +kernel
theorem dd26_275 : decode cX5_advance 275 = .ok (.imul, 1) := by decide +kernel
theorem dd26_276 : decode cX5_advance 276 = .ok (.aload_n 0, 1) := by decide +kernel
theorem dd26_277 : decode cX5_advance 277 = .ok (.getfield 9, 3) := by decide +kernel
theorem dd26_280 : decode cX5_advance 280 = .ok (.aload_n 0, 1) := by decide +kernel
theorem dd26_281 : decode cX5_advance 281 = .ok (.getfield 23, 3) := by decide +kernel
theorem dd26_284 : decode cX5_advance 284 = .ok (.baload, 1) := by decide +kernel
theorem dd26_285 : decode cX5_advance 285 = .ok (.iadd, 1) := by decide +kernel
theorem dd26_286 : decode cX5_advance 286 = .ok (.bipush 48, 2) := by decide +kernel
theorem dd26_288 : decode cX5_advance 288 = .ok (.isub, 1) := by decide +kernel
theorem dd26_289 : decode cX5_advance 289 = .ok (.putfield 32, 3) := by decide +kernel
theorem dd26_292 : decode cX5_advance 292 = .ok (.aload_n 0, 1) := by decide +kernel
theorem dd26_293 : decode cX5_advance 293 = .ok (.dup, 1) := by decide +kernel
theorem dd26_294 : decode cX5_advance 294 = .ok (.getfield 23, 3) := by decide +kernel
theorem dd26_297 : decode cX5_advance 297 = .ok (.iconst 1, 1) := by decide +kernel
theorem dd26_298 : decode cX5_advance 298 = .ok (.iadd, 1) := by decide +kernel
theorem dd26_299 : decode cX5_advance 299 = .ok (.putfield 23, 3) := by decide +kernel
theorem dd26_302 : decode cX5_advance 302 = .ok (.goto (-127), 3) := by decide +kernel
theorem dd26_305 : decode cX5_advance 305 = .ok (.aload_n 0, 1) := by decide +kernel
theorem dd26_306 : decode cX5_advance 306 = .ok (.getfield 23, 3) := by decide +kernel
theorem dd26_309 : decode cX5_advance 309 = .ok (.aload_n 0, 1) := by decide +kernel
theorem dd26_310 : decode cX5_advance 310 = .ok (.getfield 29, 3) := by decide +kernel
theorem dd26_313 : decode cX5_advance 313 = .ok (.isub, 1) := by decide +kernel
theorem dd26_314 : decode cX5_advance 314 = .ok (.iload_n 2, 1) := by decide +kernel
theorem dd26_315 : decode cX5_advance 315 = .ok (.ifCond .eq 8, 3) := by decide +kernel
theorem dd26_318 : decode cX5_advance 318 = .ok (.bipush 8, 2) := by decide +kernel
theorem dd26_320 : decode cX5_advance 320 = .ok (.goto 5, 3) := by decide +kernel
theorem dd26_323 : decode cX5_advance 323 = .ok (.bipush 9, 2) := by decide +kernel
theorem dd26_325 : decode cX5_advance 325 = .ok (.if_icmp .le 9, 3) := by decide +kernel
theorem dd26_328 : decode cX5_advance 328 = .ok (.aload_n 0, 1) := by decide +kernel
theorem dd26_329 : decode cX5_advance 329 = .ok (.iconst 0, 1) := by decide +kernel
theorem dd26_330 : decode cX5_advance 330 = .ok (.putfield 26, 3) := by decide +kernel
theorem dd26_333 : decode cX5_advance 333 = .ok (.return_, 1) := by decide +kernel
theorem dd26_334 : decode cX5_advance 334 = .ok (.aload_n 0, 1) := by decide +kernel
theorem dd26_335 : decode cX5_advance 335 = .ok (.iload_n 2, 1) := by decide +kernel
theorem dd26_336 : decode cX5_advance 336 = .ok (.ifCond .eq 7, 3) := by decide +kernel
theorem dd26_339 : decode cX5_advance 339 = .ok (.iconst 1, 1) := by decide +kernel
theorem dd26_340 : decode cX5_advance 340 = .ok (.goto 4, 3) := by decide +kernel
theorem dd26_343 : decode cX5_advance 343 = .ok (.iconst 2, 1) := by decide +kernel
theorem dd26_344 : decode cX5_advance 344 = .ok (.putfield 26, 3) := by decide +kernel
theorem dd26_347 : decode cX5_advance 347 = .ok (.iconst 0, 1) := by decide +kernel
theorem dd26_348 : decode cX5_advance 348 = .ok (.istore_n 3, 1) := by decide +kernel
theorem dd26_349 : decode cX5_advance 349 = .ok (.iload_n 2, 1) := by decide +kernel
theorem dd26_350 : decode cX5_advance 350 = .ok (.ifCond .eq 38, 3) := by decide +kernel
theorem dd26_353 : decode cX5_advance 353 = .ok (.iload_n 3, 1) := by decide +kernel
theorem dd26_354 : decode cX5_advance 354 = .ok (.bipush 47, 2) := by decide +kernel
theorem dd26_356 : decode cX5_advance 356 = .ok (.if_icmp .ge 32, 3) := by decide +kernel
theorem dd26_359 : decode cX5_advance 359 = .ok (.aload_n 0, 1) := by decide +kernel
theorem dd26_360 : decode cX5_advance 360 = .ok (.getfield 15, 3) := by decide +kernel
theorem dd26_363 : decode cX5_advance 363 = .ok (.iload_n 3, 1) := by decide +kernel
theorem dd26_364 : decode cX5_advance 364 = .ok (.laload, 1) := by decide +kernel
theorem dd26_365 : decode cX5_advance 365 = .ok (.aload_n 0, 1) := by decide +kernel
theorem dd26_366 : decode cX5_advance 366 = .ok (.getfield 35, 3) := by decide +kernel
theorem dd26_369 : decode cX5_advance 369 = .ok (.lcmp, 1) := by decide +kernel
theorem dd26_370 : decode cX5_advance 370 = .ok (.ifCond .ne 12, 3) := by decide +kernel
theorem dd26_373 : decode cX5_advance 373 = .ok (.aload_n 0, 1) := by decide +kernel
theorem dd26_374 : decode cX5_advance 374 = .ok (.sipush 128, 3) := by decide +kernel
theorem dd26_377 : decode cX5_advance 377 = .ok (.iload_n 3, 1) := by decide +kernel
theorem dd26_378 : decode cX5_advance 378 = .ok (.iadd, 1) := by decide +kernel
theorem dd26_379 : decode cX5_advance 379 = .ok (.putfield 26, 3) := by decide +kernel
theorem dd26_382 : decode cX5_advance 382 = .ok (.iinc 3 1, 3) := by decide +kernel
theorem dd26_385 : decode cX5_advance 385 = .ok (.goto (-36), 3) := by decide +kernel
theorem dd26_388 : decode cX5_advance 388 = .ok (.return_, 1) := by decide +kernel
def f26_382 (n : Nat) (r349 : Int32 → Int32 → zσ → Option zσ) (x2 : Int32) (x3 : Int32) (s : zσ) : Option zσ :=
    r349 x2 (x3 + (1 : Int32)) s
set_option maxRecDepth 20000 in
theorem f26_382_ok {n d : Nat} {r349 : Int32 → Int32 → zσ → Option zσ} {x2 : Int32} {x3 : Int32} {s : zσ} {s2 : zσ} (hd : 7 ≤ d) (hr349 : ∀ (x2 : Int32) (x3 : Int32) (s : zσ) (s2 : zσ), r349 x2 x3 s = some s2 → ∀ {w : zσ} {fz : Bool} {L : Nat} {xs : Nat → Int32}, zGo (zX fz L xs) d q_26 (349, [(0, .ref 1001), (2, .int x2), (3, .int x3)], [], zmk s w, 0, 0) (none, zmk s2 w, 0, 0)) (h : f26_382 n r349 x2 x3 s = some s2) {w : zσ} {fz : Bool} {L : Nat} {xs : Nat → Int32} : zGo (zX fz L xs) d q_26 (382, [(0, .ref 1001), (2, .int x2), (3, .int x3)], [], zmk s w, 0, 0) (none, zmk s2 w, 0, 0) := by
  obtain ⟨d, rfl⟩ : ∃ d0, d = d0 + 1 := ⟨d - 1, by omega⟩
  unfold f26_382 at h
  refine zGo_s (pc' := 385) (st' := []) (lv' := [(3, .int (x3 + (1 : Int32))), (0, .ref 1001), (2, .int x2)]) dd26_382 rfl ?_
  refine zGo_s (pc' := 349) (st' := []) dd26_385 rfl ?_
  exact zGo_lv (lv := [(0, .ref 1001), (2, .int x2), (3, .int (x3 + (1 : Int32)))]) ⟨by simp, by simp, by simp⟩ (hr349 _ _ _ _ h)
def f26_349 (n : Nat) : Nat → Int32 → Int32 → zσ → Option zσ
  | 0, _, _, _ => none
  | j + 1, x2, x3, s =>
    if x2 = (0 : Int32) then
    some s
    else if x3 < (47 : Int32) then
    if zin? x3 47 = true then
    if (s.2.1 1003 (nx x3)) = (s.2.1 1001 7) then
    zlet (sI s 1001 4 ((128 : Int32) + x3)) fun u1 =>
    f26_382 n (f26_349 n j) x2 x3 u1
    else f26_382 n (f26_349 n j) x2 x3 s
    else none
    else some s
set_option maxRecDepth 20000 in
theorem f26_349_ok {n d : Nat} (hd : 7 ≤ d) : ∀ (j : Nat) (x2 : Int32) (x3 : Int32) (s : zσ) (s2 : zσ), f26_349 n j x2 x3 s = some s2 → ∀ {w : zσ} {fz : Bool} {L : Nat} {xs : Nat → Int32}, zGo (zX fz L xs) d q_26 (349, [(0, .ref 1001), (2, .int x2), (3, .int x3)], [], zmk s w, 0, 0) (none, zmk s2 w, 0, 0) := by
  obtain ⟨d, rfl⟩ : ∃ d0, d = d0 + 1 := ⟨d - 1, by omega⟩
  intro j
  induction j with
  | zero => intro x2 x3 s s2 h; cases h
  | succ j ih =>
    intro x2 x3 s s2 h w fz L xs
    rw [f26_349] at h
    refine zGo_s (pc' := 350) (st' := [.int x2]) dd26_349 rfl ?_
    rcases oite h with ⟨hc, h⟩ | ⟨hc, h⟩
    · refine zUT dd26_350 rfl (kEqT hc) ?_
      obtain rfl := ore0 h
      exact zGo_ret dd26_388 rfl rfl
    · refine zUF dd26_350 (kEqF hc) ?_
      refine zGo_s (pc' := 354) (st' := [.int x3]) dd26_353 rfl ?_
      refine zGo_s (pc' := 356) (st' := [.int (47 : Int32), .int x3]) dd26_354 rfl ?_
      rcases oite h with ⟨hc, h⟩ | ⟨hc, h⟩
      · refine zIF dd26_356 (kGeF hc) ?_
        refine zGo_s (pc' := 360) (st' := [.ref 1001]) dd26_359 rfl ?_
        refine cGF (e := 1003) dd26_360 rfl rfl rfl rfl rfl ?_
        refine zGo_s (pc' := 364) (st' := [.int x3, .ref 1003]) dd26_363 rfl ?_
        obtain ⟨hi, h⟩ := ochk h
        refine cLA dd26_364 rfl rfl hi ?_
        refine zGo_s (pc' := 366) (st' := [.ref 1001, .long (s.2.1 1003 (nx x3))]) dd26_365 rfl ?_
        refine cGJ dd26_366 rfl rfl rfl rfl ?_
        refine zGo_s (pc' := 370) (st' := [.int (lg_cmp (s.2.1 1003 (nx x3)) (s.2.1 1001 7))]) dd26_369 rfl ?_
        rcases oite h with ⟨hc, h⟩ | ⟨hc, h⟩
        · refine zUF dd26_370 (kcNeF hc) ?_
          refine zGo_s (pc' := 374) (st' := [.ref 1001]) dd26_373 rfl ?_
          refine zGo_s (pc' := 377) (st' := [.int (128 : Int32), .ref 1001]) dd26_374 rfl ?_
          refine zGo_s (pc' := 378) (st' := [.int x3, .int (128 : Int32), .ref 1001]) dd26_377 rfl ?_
          refine zGo_s (pc' := 379) (st' := [.int ((128 : Int32) + x3), .ref 1001]) dd26_378 rfl ?_
          obtain ⟨u1, e_u1, h⟩ := olet h
          refine cPI dd26_379 rfl rfl rfl rfl rfl rfl e_u1 ?_
          exact f26_382_ok hd ih h
        · refine zUT dd26_370 rfl (kcNeT hc) ?_
          exact f26_382_ok hd ih h
      · refine zIT dd26_356 rfl (kGeT hc) ?_
        obtain rfl := ore0 h
        exact zGo_ret dd26_388 rfl rfl
def f26_344 (n : Nat) (x2 : Int32) (y0 : Int32) (s : zσ) : Option zσ :=
    zlet (sI s 1001 4 y0) fun u1 =>
    f26_349 n n x2 (0 : Int32) u1
set_option maxRecDepth 20000 in
theorem f26_344_ok {n d : Nat} {x2 : Int32} {y0 : Int32} {s : zσ} {s2 : zσ} (hd : 7 ≤ d) (h : f26_344 n x2 y0 s = some s2) {w : zσ} {fz : Bool} {L : Nat} {xs : Nat → Int32} : zGo (zX fz L xs) d q_26 (344, [(0, .ref 1001), (2, .int x2)], [.int y0, .ref 1001], zmk s w, 0, 0) (none, zmk s2 w, 0, 0) := by
  obtain ⟨d, rfl⟩ : ∃ d0, d = d0 + 1 := ⟨d - 1, by omega⟩
  unfold f26_344 at h
  obtain ⟨u1, e_u1, h⟩ := olet h
  refine cPI dd26_344 rfl rfl rfl rfl rfl rfl e_u1 ?_
  refine zGo_s (pc' := 348) (st' := [.int (0 : Int32)]) dd26_347 rfl ?_
  refine zGo_s (pc' := 349) (st' := []) (lv' := [(3, .int (0 : Int32)), (0, .ref 1001), (2, .int x2)]) dd26_348 rfl ?_
  exact zGo_lv (lv := [(0, .ref 1001), (2, .int x2), (3, .int (0 : Int32))]) ⟨by simp, by simp, by simp⟩ (f26_349_ok hd _ _ _ _ _ h)
def f26_325 (n : Nat) (x2 : Int32) (y0 : Int32) (y1 : Int32) (s : zσ) : Option zσ :=
    if y0 < y1 then
    zlet (sI s 1001 4 (0 : Int32)) fun u1 =>
    some u1
    else if x2 = (0 : Int32) then
    f26_344 n x2 (2 : Int32) s
    else f26_344 n x2 (1 : Int32) s
set_option maxRecDepth 20000 in
theorem f26_325_ok {n d : Nat} {x2 : Int32} {y0 : Int32} {y1 : Int32} {s : zσ} {s2 : zσ} (hd : 7 ≤ d) (h : f26_325 n x2 y0 y1 s = some s2) {w : zσ} {fz : Bool} {L : Nat} {xs : Nat → Int32} : zGo (zX fz L xs) d q_26 (325, [(0, .ref 1001), (2, .int x2)], [.int y0, .int y1], zmk s w, 0, 0) (none, zmk s2 w, 0, 0) := by
  obtain ⟨d, rfl⟩ : ∃ d0, d = d0 + 1 := ⟨d - 1, by omega⟩
  unfold f26_325 at h
  rcases oite h with ⟨hc, h⟩ | ⟨hc, h⟩
  · refine zIF dd26_325 (kLeF hc) ?_
    refine zGo_s (pc' := 329) (st' := [.ref 1001]) dd26_328 rfl ?_
    refine zGo_s (pc' := 330) (st' := [.int (0 : Int32), .ref 1001]) dd26_329 rfl ?_
    obtain ⟨u1, e_u1, h⟩ := olet h
    refine cPI dd26_330 rfl rfl rfl rfl rfl rfl e_u1 ?_
    obtain rfl := ore0 h
    exact zGo_ret dd26_333 rfl rfl
  · refine zIT dd26_325 rfl (kLeT hc) ?_
    refine zGo_s (pc' := 335) (st' := [.ref 1001]) dd26_334 rfl ?_
    refine zGo_s (pc' := 336) (st' := [.int x2, .ref 1001]) dd26_335 rfl ?_
    rcases oite h with ⟨hc, h⟩ | ⟨hc, h⟩
    · refine zUT dd26_336 rfl (kEqT hc) ?_
      refine zGo_s (pc' := 344) (st' := [.int (2 : Int32), .ref 1001]) dd26_343 rfl ?_
      exact f26_344_ok hd h
    · refine zUF dd26_336 (kEqF hc) ?_
      refine zGo_s (pc' := 340) (st' := [.int (1 : Int32), .ref 1001]) dd26_339 rfl ?_
      refine zGo_s (pc' := 344) (st' := [.int (1 : Int32), .ref 1001]) dd26_340 rfl ?_
      exact f26_344_ok hd h
def f26_305 (n : Nat) (x2 : Int32) (s : zσ) : Option zσ :=
    if x2 = (0 : Int32) then
    f26_325 n x2 (9 : Int32) ((s.1 1001 3) - (s.1 1001 5)) s
    else f26_325 n x2 (8 : Int32) ((s.1 1001 3) - (s.1 1001 5)) s
set_option maxRecDepth 20000 in
theorem f26_305_ok {n d : Nat} {x2 : Int32} {s : zσ} {s2 : zσ} (hd : 7 ≤ d) (h : f26_305 n x2 s = some s2) {w : zσ} {fz : Bool} {L : Nat} {xs : Nat → Int32} : zGo (zX fz L xs) d q_26 (305, [(0, .ref 1001), (2, .int x2)], [], zmk s w, 0, 0) (none, zmk s2 w, 0, 0) := by
  obtain ⟨d, rfl⟩ : ∃ d0, d = d0 + 1 := ⟨d - 1, by omega⟩
  unfold f26_305 at h
  refine zGo_s (pc' := 306) (st' := [.ref 1001]) dd26_305 rfl ?_
  refine cGI dd26_306 rfl rfl rfl rfl ?_
  refine zGo_s (pc' := 310) (st' := [.ref 1001, .int (s.1 1001 3)]) dd26_309 rfl ?_
  refine cGI dd26_310 rfl rfl rfl rfl ?_
  refine zGo_s (pc' := 314) (st' := [.int ((s.1 1001 3) - (s.1 1001 5))]) dd26_313 rfl ?_
  refine zGo_s (pc' := 315) (st' := [.int x2, .int ((s.1 1001 3) - (s.1 1001 5))]) dd26_314 rfl ?_
  rcases oite h with ⟨hc, h⟩ | ⟨hc, h⟩
  · refine zUT dd26_315 rfl (kEqT hc) ?_
    refine zGo_s (pc' := 325) (st' := [.int (9 : Int32), .int ((s.1 1001 3) - (s.1 1001 5))]) dd26_323 rfl ?_
    exact f26_325_ok hd h
  · refine zUF dd26_315 (kEqF hc) ?_
    refine zGo_s (pc' := 320) (st' := [.int (8 : Int32), .int ((s.1 1001 3) - (s.1 1001 5))]) dd26_318 rfl ?_
    refine zGo_s (pc' := 325) (st' := [.int (8 : Int32), .int ((s.1 1001 3) - (s.1 1001 5))]) dd26_320 rfl ?_
    exact f26_325_ok hd h
def f26_246 (n : Nat) (r175 : Int32 → zσ → Option zσ) (x2 : Int32) (s : zσ) : Option zσ :=
    if zin? (s.1 1001 3) 4000 = true then
    zlet (sJ s 1001 7 (((s.2.1 1001 7) <<< ((8 : Int32).toInt64 &&& 63)) ||| ((s.1 1002 (nx (s.1 1001 3))).toInt64))) fun u1 =>
    if zin? (u1.1 1001 3) 4000 = true then
    zlet (sI u1 1001 6 ((((u1.1 1001 6) * (10 : Int32)) + (u1.1 1002 (nx (u1.1 1001 3)))) - (48 : Int32))) fun u2 =>
    zlet (sI u2 1001 3 ((u2.1 1001 3) + (1 : Int32))) fun u3 =>
    r175 x2 u3
    else none
    else none
set_option maxRecDepth 20000 in
theorem f26_246_ok {n d : Nat} {r175 : Int32 → zσ → Option zσ} {x2 : Int32} {s : zσ} {s2 : zσ} (hd : 7 ≤ d) (hr175 : ∀ (x2 : Int32) (s : zσ) (s2 : zσ), r175 x2 s = some s2 → ∀ {w : zσ} {fz : Bool} {L : Nat} {xs : Nat → Int32}, zGo (zX fz L xs) d q_26 (175, [(0, .ref 1001), (2, .int x2)], [], zmk s w, 0, 0) (none, zmk s2 w, 0, 0)) (h : f26_246 n r175 x2 s = some s2) {w : zσ} {fz : Bool} {L : Nat} {xs : Nat → Int32} : zGo (zX fz L xs) d q_26 (246, [(0, .ref 1001), (2, .int x2)], [], zmk s w, 0, 0) (none, zmk s2 w, 0, 0) := by
  obtain ⟨d, rfl⟩ : ∃ d0, d = d0 + 1 := ⟨d - 1, by omega⟩
  unfold f26_246 at h
  refine zGo_s (pc' := 247) (st' := [.ref 1001]) dd26_246 rfl ?_
  refine zGo_s (pc' := 248) (st' := [.ref 1001, .ref 1001]) dd26_247 rfl ?_
  refine cGJ dd26_248 rfl rfl rfl rfl ?_
  refine zGo_s (pc' := 253) (st' := [.int (8 : Int32), .long (s.2.1 1001 7), .ref 1001]) dd26_251 rfl ?_
  refine zGo_s (pc' := 254) (st' := [.long ((s.2.1 1001 7) <<< ((8 : Int32).toInt64 &&& 63)), .ref 1001]) dd26_253 rfl ?_
  refine zGo_s (pc' := 255) (st' := [.ref 1001, .long ((s.2.1 1001 7) <<< ((8 : Int32).toInt64 &&& 63)), .ref 1001]) dd26_254 rfl ?_
  refine cGF (e := 1002) dd26_255 rfl rfl rfl rfl rfl ?_
  refine zGo_s (pc' := 259) (st' := [.ref 1001, .ref 1002, .long ((s.2.1 1001 7) <<< ((8 : Int32).toInt64 &&& 63)), .ref 1001]) dd26_258 rfl ?_
  refine cGI dd26_259 rfl rfl rfl rfl ?_
  obtain ⟨hi, h⟩ := ochk h
  refine cBA dd26_262 rfl rfl rfl hi ?_
  refine zGo_s (pc' := 264) (st' := [.long ((s.1 1002 (nx (s.1 1001 3))).toInt64), .long ((s.2.1 1001 7) <<< ((8 : Int32).toInt64 &&& 63)), .ref 1001]) dd26_263 rfl ?_
  refine zGo_s (pc' := 265) (st' := [.long (((s.2.1 1001 7) <<< ((8 : Int32).toInt64 &&& 63)) ||| ((s.1 1002 (nx (s.1 1001 3))).toInt64)), .ref 1001]) dd26_264 rfl ?_
  obtain ⟨u1, e_u1, h⟩ := olet h
  refine cPJ dd26_265 rfl rfl rfl rfl rfl rfl e_u1 ?_
  refine zGo_s (pc' := 269) (st' := [.ref 1001]) dd26_268 rfl ?_
  refine zGo_s (pc' := 270) (st' := [.ref 1001, .ref 1001]) dd26_269 rfl ?_
  refine cGI dd26_270 rfl rfl rfl rfl ?_
  refine zGo_s (pc' := 275) (st' := [.int (10 : Int32), .int (u1.1 1001 6), .ref 1001]) dd26_273 rfl ?_
  refine zGo_s (pc' := 276) (st' := [.int ((u1.1 1001 6) * (10 : Int32)), .ref 1001]) dd26_275 rfl ?_
  refine zGo_s (pc' := 277) (st' := [.ref 1001, .int ((u1.1 1001 6) * (10 : Int32)), .ref 1001]) dd26_276 rfl ?_
  refine cGF (e := 1002) dd26_277 rfl rfl rfl rfl rfl ?_
  refine zGo_s (pc' := 281) (st' := [.ref 1001, .ref 1002, .int ((u1.1 1001 6) * (10 : Int32)), .ref 1001]) dd26_280 rfl ?_
  refine cGI dd26_281 rfl rfl rfl rfl ?_
  obtain ⟨hi, h⟩ := ochk h
  refine cBA dd26_284 rfl rfl rfl hi ?_
  refine zGo_s (pc' := 286) (st' := [.int (((u1.1 1001 6) * (10 : Int32)) + (u1.1 1002 (nx (u1.1 1001 3)))), .ref 1001]) dd26_285 rfl ?_
  refine zGo_s (pc' := 288) (st' := [.int (48 : Int32), .int (((u1.1 1001 6) * (10 : Int32)) + (u1.1 1002 (nx (u1.1 1001 3)))), .ref 1001]) dd26_286 rfl ?_
  refine zGo_s (pc' := 289) (st' := [.int ((((u1.1 1001 6) * (10 : Int32)) + (u1.1 1002 (nx (u1.1 1001 3)))) - (48 : Int32)), .ref 1001]) dd26_288 rfl ?_
  obtain ⟨u2, e_u2, h⟩ := olet h
  refine cPI dd26_289 rfl rfl rfl rfl rfl rfl e_u2 ?_
  refine zGo_s (pc' := 293) (st' := [.ref 1001]) dd26_292 rfl ?_
  refine zGo_s (pc' := 294) (st' := [.ref 1001, .ref 1001]) dd26_293 rfl ?_
  refine cGI dd26_294 rfl rfl rfl rfl ?_
  refine zGo_s (pc' := 298) (st' := [.int (1 : Int32), .int (u2.1 1001 3), .ref 1001]) dd26_297 rfl ?_
  refine zGo_s (pc' := 299) (st' := [.int ((u2.1 1001 3) + (1 : Int32)), .ref 1001]) dd26_298 rfl ?_
  obtain ⟨u3, e_u3, h⟩ := olet h
  refine cPI dd26_299 rfl rfl rfl rfl rfl rfl e_u3 ?_
  refine zGo_s (pc' := 175) (st' := []) dd26_302 rfl ?_
  exact hr175 _ _ _ h
def f26_214 (n : Nat) (r175 : Int32 → zσ → Option zσ) (x2 : Int32) (s : zσ) : Option zσ :=
    if x2 = (0 : Int32) then
    f26_305 n x2 s
    else if zin? (s.1 1001 3) 4000 = true then
    if (s.1 1002 (nx (s.1 1001 3))) < (97 : Int32) then
    f26_305 n x2 s
    else if zin? (s.1 1001 3) 4000 = true then
    if (122 : Int32) < (s.1 1002 (nx (s.1 1001 3))) then
    f26_305 n x2 s
    else f26_246 n r175 x2 s
    else none
    else none
set_option maxRecDepth 20000 in
theorem f26_214_ok {n d : Nat} {r175 : Int32 → zσ → Option zσ} {x2 : Int32} {s : zσ} {s2 : zσ} (hd : 7 ≤ d) (hr175 : ∀ (x2 : Int32) (s : zσ) (s2 : zσ), r175 x2 s = some s2 → ∀ {w : zσ} {fz : Bool} {L : Nat} {xs : Nat → Int32}, zGo (zX fz L xs) d q_26 (175, [(0, .ref 1001), (2, .int x2)], [], zmk s w, 0, 0) (none, zmk s2 w, 0, 0)) (h : f26_214 n r175 x2 s = some s2) {w : zσ} {fz : Bool} {L : Nat} {xs : Nat → Int32} : zGo (zX fz L xs) d q_26 (214, [(0, .ref 1001), (2, .int x2)], [], zmk s w, 0, 0) (none, zmk s2 w, 0, 0) := by
  obtain ⟨d, rfl⟩ : ∃ d0, d = d0 + 1 := ⟨d - 1, by omega⟩
  unfold f26_214 at h
  refine zGo_s (pc' := 215) (st' := [.int x2]) dd26_214 rfl ?_
  rcases oite h with ⟨hc, h⟩ | ⟨hc, h⟩
  · refine zUT dd26_215 rfl (kEqT hc) ?_
    exact f26_305_ok hd h
  · refine zUF dd26_215 (kEqF hc) ?_
    refine zGo_s (pc' := 219) (st' := [.ref 1001]) dd26_218 rfl ?_
    refine cGF (e := 1002) dd26_219 rfl rfl rfl rfl rfl ?_
    refine zGo_s (pc' := 223) (st' := [.ref 1001, .ref 1002]) dd26_222 rfl ?_
    refine cGI dd26_223 rfl rfl rfl rfl ?_
    obtain ⟨hi, h⟩ := ochk h
    refine cBA dd26_226 rfl rfl rfl hi ?_
    refine zGo_s (pc' := 229) (st' := [.int (97 : Int32), .int (s.1 1002 (nx (s.1 1001 3)))]) dd26_227 rfl ?_
    rcases oite h with ⟨hc, h⟩ | ⟨hc, h⟩
    · refine zIT dd26_229 rfl (kLtT hc) ?_
      exact f26_305_ok hd h
    · refine zIF dd26_229 (kLtF hc) ?_
      refine zGo_s (pc' := 233) (st' := [.ref 1001]) dd26_232 rfl ?_
      refine cGF (e := 1002) dd26_233 rfl rfl rfl rfl rfl ?_
      refine zGo_s (pc' := 237) (st' := [.ref 1001, .ref 1002]) dd26_236 rfl ?_
      refine cGI dd26_237 rfl rfl rfl rfl ?_
      obtain ⟨hi, h⟩ := ochk h
      refine cBA dd26_240 rfl rfl rfl hi ?_
      refine zGo_s (pc' := 243) (st' := [.int (122 : Int32), .int (s.1 1002 (nx (s.1 1001 3)))]) dd26_241 rfl ?_
      rcases oite h with ⟨hc, h⟩ | ⟨hc, h⟩
      · refine zIT dd26_243 rfl (kGtT hc) ?_
        exact f26_305_ok hd h
      · refine zIF dd26_243 (kGtF hc) ?_
        exact f26_246_ok hd hr175 h
def f26_175 (n : Nat) : Nat → Int32 → zσ → Option zσ
  | 0, _, _ => none
  | j + 1, x2, s =>
    if (s.1 1001 3) < (s.1 1001 2) then
    if zin? (s.1 1001 3) 4000 = true then
    if (s.1 1002 (nx (s.1 1001 3))) < (48 : Int32) then
    f26_214 n (f26_175 n j) x2 s
    else if zin? (s.1 1001 3) 4000 = true then
    if (57 : Int32) < (s.1 1002 (nx (s.1 1001 3))) then
    f26_214 n (f26_175 n j) x2 s
    else f26_246 n (f26_175 n j) x2 s
    else none
    else none
    else f26_305 n x2 s
set_option maxRecDepth 20000 in
theorem f26_175_ok {n d : Nat} (hd : 7 ≤ d) : ∀ (j : Nat) (x2 : Int32) (s : zσ) (s2 : zσ), f26_175 n j x2 s = some s2 → ∀ {w : zσ} {fz : Bool} {L : Nat} {xs : Nat → Int32}, zGo (zX fz L xs) d q_26 (175, [(0, .ref 1001), (2, .int x2)], [], zmk s w, 0, 0) (none, zmk s2 w, 0, 0) := by
  obtain ⟨d, rfl⟩ : ∃ d0, d = d0 + 1 := ⟨d - 1, by omega⟩
  intro j
  induction j with
  | zero => intro x2 s s2 h; cases h
  | succ j ih =>
    intro x2 s s2 h w fz L xs
    rw [f26_175] at h
    refine zGo_s (pc' := 176) (st' := [.ref 1001]) dd26_175 rfl ?_
    refine cGI dd26_176 rfl rfl rfl rfl ?_
    refine zGo_s (pc' := 180) (st' := [.ref 1001, .int (s.1 1001 3)]) dd26_179 rfl ?_
    refine cGI dd26_180 rfl rfl rfl rfl ?_
    rcases oite h with ⟨hc, h⟩ | ⟨hc, h⟩
    · refine zIF dd26_183 (kGeF hc) ?_
      refine zGo_s (pc' := 187) (st' := [.ref 1001]) dd26_186 rfl ?_
      refine cGF (e := 1002) dd26_187 rfl rfl rfl rfl rfl ?_
      refine zGo_s (pc' := 191) (st' := [.ref 1001, .ref 1002]) dd26_190 rfl ?_
      refine cGI dd26_191 rfl rfl rfl rfl ?_
      obtain ⟨hi, h⟩ := ochk h
      refine cBA dd26_194 rfl rfl rfl hi ?_
      refine zGo_s (pc' := 197) (st' := [.int (48 : Int32), .int (s.1 1002 (nx (s.1 1001 3)))]) dd26_195 rfl ?_
      rcases oite h with ⟨hc, h⟩ | ⟨hc, h⟩
      · refine zIT dd26_197 rfl (kLtT hc) ?_
        exact f26_214_ok hd ih h
      · refine zIF dd26_197 (kLtF hc) ?_
        refine zGo_s (pc' := 201) (st' := [.ref 1001]) dd26_200 rfl ?_
        refine cGF (e := 1002) dd26_201 rfl rfl rfl rfl rfl ?_
        refine zGo_s (pc' := 205) (st' := [.ref 1001, .ref 1002]) dd26_204 rfl ?_
        refine cGI dd26_205 rfl rfl rfl rfl ?_
        obtain ⟨hi, h⟩ := ochk h
        refine cBA dd26_208 rfl rfl rfl hi ?_
        refine zGo_s (pc' := 211) (st' := [.int (57 : Int32), .int (s.1 1002 (nx (s.1 1001 3)))]) dd26_209 rfl ?_
        rcases oite h with ⟨hc, h⟩ | ⟨hc, h⟩
        · refine zIF dd26_211 (kLeF hc) ?_
          exact f26_214_ok hd ih h
        · refine zIT dd26_211 rfl (kLeT hc) ?_
          exact f26_246_ok hd ih h
    · refine zIT dd26_183 rfl (kGeT hc) ?_
      exact f26_305_ok hd h
def f26_161 (n : Nat) (x1 : Int32) (x2 : Int32) (s : zσ) : Option zσ :=
    zlet (sJ s 1001 7 (x1.toInt64)) fun u1 =>
    zlet (sI u1 1001 6 (x1 - (48 : Int32))) fun u2 =>
    f26_175 n n x2 u2
set_option maxRecDepth 20000 in
theorem f26_161_ok {n d : Nat} {x1 : Int32} {x2 : Int32} {s : zσ} {s2 : zσ} (hd : 7 ≤ d) (h : f26_161 n x1 x2 s = some s2) {w : zσ} {fz : Bool} {L : Nat} {xs : Nat → Int32} : zGo (zX fz L xs) d q_26 (161, [(0, .ref 1001), (1, .int x1), (2, .int x2)], [], zmk s w, 0, 0) (none, zmk s2 w, 0, 0) := by
  obtain ⟨d, rfl⟩ : ∃ d0, d = d0 + 1 := ⟨d - 1, by omega⟩
  unfold f26_161 at h
  refine zGo_s (pc' := 162) (st' := [.ref 1001]) dd26_161 rfl ?_
  refine zGo_s (pc' := 163) (st' := [.int x1, .ref 1001]) dd26_162 rfl ?_
  refine zGo_s (pc' := 164) (st' := [.long (x1.toInt64), .ref 1001]) dd26_163 rfl ?_
  obtain ⟨u1, e_u1, h⟩ := olet h
  refine cPJ dd26_164 rfl rfl rfl rfl rfl rfl e_u1 ?_
  refine zGo_s (pc' := 168) (st' := [.ref 1001]) dd26_167 rfl ?_
  refine zGo_s (pc' := 169) (st' := [.int x1, .ref 1001]) dd26_168 rfl ?_
  refine zGo_s (pc' := 171) (st' := [.int (48 : Int32), .int x1, .ref 1001]) dd26_169 rfl ?_
  refine zGo_s (pc' := 172) (st' := [.int (x1 - (48 : Int32)), .ref 1001]) dd26_171 rfl ?_
  obtain ⟨u2, e_u2, h⟩ := olet h
  refine cPI dd26_172 rfl rfl rfl rfl rfl rfl e_u2 ?_
  exact zGo_lv (lv := [(0, .ref 1001), (2, .int x2)]) ⟨by simp, by simp, by simp⟩ (f26_175_ok hd _ _ _ _ h)
def f26_157 (n : Nat) (y0 : Int32) (s : zσ) : Option zσ :=
    zlet (sI s 1001 4 y0) fun u1 =>
    some u1
set_option maxRecDepth 20000 in
theorem f26_157_ok {n d : Nat} {y0 : Int32} {s : zσ} {s2 : zσ} (hd : 7 ≤ d) (h : f26_157 n y0 s = some s2) {w : zσ} {fz : Bool} {L : Nat} {xs : Nat → Int32} : zGo (zX fz L xs) d q_26 (157, [], [.int y0, .ref 1001], zmk s w, 0, 0) (none, zmk s2 w, 0, 0) := by
  obtain ⟨d, rfl⟩ : ∃ d0, d = d0 + 1 := ⟨d - 1, by omega⟩
  unfold f26_157 at h
  obtain ⟨u1, e_u1, h⟩ := olet h
  refine cPI dd26_157 rfl rfl rfl rfl rfl rfl e_u1 ?_
  obtain rfl := ore0 h
  exact zGo_ret dd26_160 rfl rfl
def f26_141 (n : Nat) (x1 : Int32) (s : zσ) : Option zσ :=
    if (zidx 1 ((x1.toUInt32 % 65536).toInt32)) < (0 : Int32) then
    f26_157 n (0 : Int32) s
    else f26_157 n x1 s
set_option maxRecDepth 20000 in
theorem f26_141_ok {n d : Nat} {x1 : Int32} {s : zσ} {s2 : zσ} (hd : 7 ≤ d) (h : f26_141 n x1 s = some s2) {w : zσ} {fz : Bool} {L : Nat} {xs : Nat → Int32} : zGo (zX fz L xs) d q_26 (141, [(0, .ref 1001), (1, .int x1)], [], zmk s w, 0, 0) (none, zmk s2 w, 0, 0) := by
  obtain ⟨d, rfl⟩ : ∃ d0, d = d0 + 1 := ⟨d - 1, by omega⟩
  unfold f26_141 at h
  refine zGo_s (pc' := 142) (st' := [.ref 1001]) dd26_141 rfl ?_
  refine zGo_s (pc' := 144) (st' := [.ref 1, .ref 1001]) dd26_142 rfl ?_
  refine zGo_s (pc' := 145) (st' := [.int x1, .ref 1, .ref 1001]) dd26_144 rfl ?_
  refine zGo_s (pc' := 146) (st' := [.int ((x1.toUInt32 % 65536).toInt32), .ref 1, .ref 1001]) dd26_145 rfl ?_
  refine zCV1 (As := [.int ((x1.toUInt32 % 65536).toInt32)]) (rest := [.ref 1001]) (b := 1) (q' := q_27) dd26_146 rfl rfl (zrcv_s (by decide)) rfl rfl rfl (zGo_dm (g_indexOf (d := 0) (k := 1) (by decide) _) (by omega)) ?_
  rcases oite h with ⟨hc, h⟩ | ⟨hc, h⟩
  · refine zUT dd26_149 rfl (kLtT hc) ?_
    refine zGo_s (pc' := 157) (st' := [.int (0 : Int32), .ref 1001]) dd26_156 rfl ?_
    exact zGo_lv (lv := []) ⟨by simp, by simp, by simp⟩ (f26_157_ok hd h)
  · refine zUF dd26_149 (kLtF hc) ?_
    refine zGo_s (pc' := 153) (st' := [.int x1, .ref 1001]) dd26_152 rfl ?_
    refine zGo_s (pc' := 157) (st' := [.int x1, .ref 1001]) dd26_153 rfl ?_
    exact zGo_lv (lv := []) ⟨by simp, by simp, by simp⟩ (f26_157_ok hd h)
def f26_124 (n : Nat) (x1 : Int32) (y0 : Int32) (s : zσ) : Option zσ :=
    if y0 = (0 : Int32) then
    if x1 < (48 : Int32) then
    f26_141 n x1 s
    else if (57 : Int32) < x1 then
    f26_141 n x1 s
    else f26_161 n x1 y0 s
    else f26_161 n x1 y0 s
set_option maxRecDepth 20000 in
theorem f26_124_ok {n d : Nat} {x1 : Int32} {y0 : Int32} {s : zσ} {s2 : zσ} (hd : 7 ≤ d) (h : f26_124 n x1 y0 s = some s2) {w : zσ} {fz : Bool} {L : Nat} {xs : Nat → Int32} : zGo (zX fz L xs) d q_26 (124, [(0, .ref 1001), (1, .int x1)], [.int y0], zmk s w, 0, 0) (none, zmk s2 w, 0, 0) := by
  obtain ⟨d, rfl⟩ : ∃ d0, d = d0 + 1 := ⟨d - 1, by omega⟩
  unfold f26_124 at h
  refine zGo_s (pc' := 125) (st' := []) (lv' := [(2, .int y0), (0, .ref 1001), (1, .int x1)]) dd26_124 rfl ?_
  refine zGo_s (pc' := 126) (st' := [.int y0]) dd26_125 rfl ?_
  rcases oite h with ⟨hc, h⟩ | ⟨hc, h⟩
  · refine zUF dd26_126 (kNeF hc) ?_
    refine zGo_s (pc' := 130) (st' := [.int x1]) dd26_129 rfl ?_
    refine zGo_s (pc' := 132) (st' := [.int (48 : Int32), .int x1]) dd26_130 rfl ?_
    rcases oite h with ⟨hc, h⟩ | ⟨hc, h⟩
    · refine zIT dd26_132 rfl (kLtT hc) ?_
      exact zGo_lv (lv := [(0, .ref 1001), (1, .int x1)]) ⟨by simp, by simp, by simp⟩ (f26_141_ok hd h)
    · refine zIF dd26_132 (kLtF hc) ?_
      refine zGo_s (pc' := 136) (st' := [.int x1]) dd26_135 rfl ?_
      refine zGo_s (pc' := 138) (st' := [.int (57 : Int32), .int x1]) dd26_136 rfl ?_
      rcases oite h with ⟨hc, h⟩ | ⟨hc, h⟩
      · refine zIF dd26_138 (kLeF hc) ?_
        exact zGo_lv (lv := [(0, .ref 1001), (1, .int x1)]) ⟨by simp, by simp, by simp⟩ (f26_141_ok hd h)
      · refine zIT dd26_138 rfl (kLeT hc) ?_
        exact zGo_lv (lv := [(0, .ref 1001), (1, .int x1), (2, .int y0)]) ⟨by simp, by simp, by simp⟩ (f26_161_ok hd h)
  · refine zUT dd26_126 rfl (kNeT hc) ?_
    exact zGo_lv (lv := [(0, .ref 1001), (1, .int x1), (2, .int y0)]) ⟨by simp, by simp, by simp⟩ (f26_161_ok hd h)
def f26_123 (n : Nat) (x1 : Int32) (s : zσ) : Option zσ :=
    f26_124 n x1 (0 : Int32) s
set_option maxRecDepth 20000 in
theorem f26_123_ok {n d : Nat} {x1 : Int32} {s : zσ} {s2 : zσ} (hd : 7 ≤ d) (h : f26_123 n x1 s = some s2) {w : zσ} {fz : Bool} {L : Nat} {xs : Nat → Int32} : zGo (zX fz L xs) d q_26 (123, [(0, .ref 1001), (1, .int x1)], [], zmk s w, 0, 0) (none, zmk s2 w, 0, 0) := by
  obtain ⟨d, rfl⟩ : ∃ d0, d = d0 + 1 := ⟨d - 1, by omega⟩
  unfold f26_123 at h
  refine zGo_s (pc' := 124) (st' := [.int (0 : Int32)]) dd26_123 rfl ?_
  exact f26_124_ok hd h
def f26_61 (n : Nat) (s : zσ) : Option zσ :=
    zlet (sI s 1001 5 (s.1 1001 3)) fun u1 =>
    if (u1.1 1001 3) < (u1.1 1001 2) then
    zlet (sI u1 1001 3 ((u1.1 1001 3) + (1 : Int32))) fun u2 =>
    if zin? (u1.1 1001 3) 4000 = true then
    zlet (((u2.1 1002 (nx (u1.1 1001 3))) &&& (255 : Int32))) fun v3 =>
    if v3 < (97 : Int32) then
    f26_123 n v3 u2
    else if (122 : Int32) < v3 then
    f26_123 n v3 u2
    else f26_124 n v3 (1 : Int32) u2
    else none
    else zlet (sI u1 1001 4 (3 : Int32)) fun u4 =>
    some u4
set_option maxRecDepth 20000 in
theorem f26_61_ok {n d : Nat} {s : zσ} {s2 : zσ} (hd : 7 ≤ d) (h : f26_61 n s = some s2) {w : zσ} {fz : Bool} {L : Nat} {xs : Nat → Int32} : zGo (zX fz L xs) d q_26 (61, [(0, .ref 1001)], [], zmk s w, 0, 0) (none, zmk s2 w, 0, 0) := by
  obtain ⟨d, rfl⟩ : ∃ d0, d = d0 + 1 := ⟨d - 1, by omega⟩
  unfold f26_61 at h
  refine zGo_s (pc' := 62) (st' := [.ref 1001]) dd26_61 rfl ?_
  refine zGo_s (pc' := 63) (st' := [.ref 1001, .ref 1001]) dd26_62 rfl ?_
  refine cGI dd26_63 rfl rfl rfl rfl ?_
  obtain ⟨u1, e_u1, h⟩ := olet h
  refine cPI dd26_66 rfl rfl rfl rfl rfl rfl e_u1 ?_
  refine zGo_s (pc' := 70) (st' := [.ref 1001]) dd26_69 rfl ?_
  refine cGI dd26_70 rfl rfl rfl rfl ?_
  refine zGo_s (pc' := 74) (st' := [.ref 1001, .int (u1.1 1001 3)]) dd26_73 rfl ?_
  refine cGI dd26_74 rfl rfl rfl rfl ?_
  rcases oite h with ⟨hc, h⟩ | ⟨hc, h⟩
  · refine zIT dd26_77 rfl (kLtT hc) ?_
    refine zGo_s (pc' := 87) (st' := [.ref 1001]) dd26_86 rfl ?_
    refine cGF (e := 1002) dd26_87 rfl rfl rfl rfl rfl ?_
    refine zGo_s (pc' := 91) (st' := [.ref 1001, .ref 1002]) dd26_90 rfl ?_
    refine zGo_s (pc' := 92) (st' := [.ref 1001, .ref 1001, .ref 1002]) dd26_91 rfl ?_
    refine cGI dd26_92 rfl rfl rfl rfl ?_
    refine zGo_s (pc' := 96) (st' := [.int (u1.1 1001 3), .ref 1001, .int (u1.1 1001 3), .ref 1002]) dd26_95 rfl ?_
    refine zGo_s (pc' := 97) (st' := [.int (1 : Int32), .int (u1.1 1001 3), .ref 1001, .int (u1.1 1001 3), .ref 1002]) dd26_96 rfl ?_
    refine zGo_s (pc' := 98) (st' := [.int ((u1.1 1001 3) + (1 : Int32)), .ref 1001, .int (u1.1 1001 3), .ref 1002]) dd26_97 rfl ?_
    obtain ⟨u2, e_u2, h⟩ := olet h
    refine cPI dd26_98 rfl rfl rfl rfl rfl rfl e_u2 ?_
    obtain ⟨hi, h⟩ := ochk h
    refine cBA dd26_101 rfl rfl rfl hi ?_
    refine zGo_s (pc' := 105) (st' := [.int (255 : Int32), .int (u2.1 1002 (nx (u1.1 1001 3)))]) dd26_102 rfl ?_
    refine zGo_s (pc' := 106) (st' := [.int ((u2.1 1002 (nx (u1.1 1001 3))) &&& (255 : Int32))]) dd26_105 rfl ?_
    obtain ⟨v3, e_v3, h⟩ := olet h
    refine zGo_is1 e_v3 dd26_106 (x' := (107, [(1, .int v3), (0, .ref 1001)], [], _, _, _)) rfl ?_
    refine zGo_s (pc' := 108) (st' := [.int v3]) dd26_107 rfl ?_
    refine zGo_s (pc' := 110) (st' := [.int (97 : Int32), .int v3]) dd26_108 rfl ?_
    rcases oite h with ⟨hc, h⟩ | ⟨hc, h⟩
    · refine zIT dd26_110 rfl (kLtT hc) ?_
      exact zGo_lv (lv := [(0, .ref 1001), (1, .int v3)]) ⟨by simp, by simp, by simp⟩ (f26_123_ok hd h)
    · refine zIF dd26_110 (kLtF hc) ?_
      refine zGo_s (pc' := 114) (st' := [.int v3]) dd26_113 rfl ?_
      refine zGo_s (pc' := 116) (st' := [.int (122 : Int32), .int v3]) dd26_114 rfl ?_
      rcases oite h with ⟨hc, h⟩ | ⟨hc, h⟩
      · refine zIT dd26_116 rfl (kGtT hc) ?_
        exact zGo_lv (lv := [(0, .ref 1001), (1, .int v3)]) ⟨by simp, by simp, by simp⟩ (f26_123_ok hd h)
      · refine zIF dd26_116 (kGtF hc) ?_
        refine zGo_s (pc' := 120) (st' := [.int (1 : Int32)]) dd26_119 rfl ?_
        refine zGo_s (pc' := 124) (st' := [.int (1 : Int32)]) dd26_120 rfl ?_
        exact zGo_lv (lv := [(0, .ref 1001), (1, .int v3)]) ⟨by simp, by simp, by simp⟩ (f26_124_ok hd h)
  · refine zIF dd26_77 (kLtF hc) ?_
    refine zGo_s (pc' := 81) (st' := [.ref 1001]) dd26_80 rfl ?_
    refine zGo_s (pc' := 82) (st' := [.int (3 : Int32), .ref 1001]) dd26_81 rfl ?_
    obtain ⟨u4, e_u4, h⟩ := olet h
    refine cPI dd26_82 rfl rfl rfl rfl rfl rfl e_u4 ?_
    obtain rfl := ore0 h
    exact zGo_ret dd26_85 rfl rfl
def f26_48 (n : Nat) (r9 : zσ → Option zσ) (s : zσ) : Option zσ :=
    zlet (sI s 1001 3 ((s.1 1001 3) + (1 : Int32))) fun u1 =>
    r9 u1
set_option maxRecDepth 20000 in
theorem f26_48_ok {n d : Nat} {r9 : zσ → Option zσ} {s : zσ} {s2 : zσ} (hd : 7 ≤ d) (hr9 : ∀ (s : zσ) (s2 : zσ), r9 s = some s2 → ∀ {w : zσ} {fz : Bool} {L : Nat} {xs : Nat → Int32}, zGo (zX fz L xs) d q_26 (9, [(0, .ref 1001)], [], zmk s w, 0, 0) (none, zmk s2 w, 0, 0)) (h : f26_48 n r9 s = some s2) {w : zσ} {fz : Bool} {L : Nat} {xs : Nat → Int32} : zGo (zX fz L xs) d q_26 (48, [(0, .ref 1001)], [], zmk s w, 0, 0) (none, zmk s2 w, 0, 0) := by
  obtain ⟨d, rfl⟩ : ∃ d0, d = d0 + 1 := ⟨d - 1, by omega⟩
  unfold f26_48 at h
  refine zGo_s (pc' := 49) (st' := [.ref 1001]) dd26_48 rfl ?_
  refine zGo_s (pc' := 50) (st' := [.ref 1001, .ref 1001]) dd26_49 rfl ?_
  refine cGI dd26_50 rfl rfl rfl rfl ?_
  refine zGo_s (pc' := 54) (st' := [.int (1 : Int32), .int (s.1 1001 3), .ref 1001]) dd26_53 rfl ?_
  refine zGo_s (pc' := 55) (st' := [.int ((s.1 1001 3) + (1 : Int32)), .ref 1001]) dd26_54 rfl ?_
  obtain ⟨u1, e_u1, h⟩ := olet h
  refine cPI dd26_55 rfl rfl rfl rfl rfl rfl e_u1 ?_
  refine zGo_s (pc' := 9) (st' := []) dd26_58 rfl ?_
  exact hr9 _ _ h
def f26_9 (n : Nat) : Nat → zσ → Option zσ
  | 0, _ => none
  | j + 1, s =>
    if (s.1 1001 3) < (s.1 1001 2) then
    if zin? (s.1 1001 3) 4000 = true then
    if (s.1 1002 (nx (s.1 1001 3))) = (32 : Int32) then
    f26_48 n (f26_9 n j) s
    else if zin? (s.1 1001 3) 4000 = true then
    if (s.1 1002 (nx (s.1 1001 3))) = (10 : Int32) then
    f26_48 n (f26_9 n j) s
    else f26_61 n s
    else none
    else none
    else f26_61 n s
set_option maxRecDepth 20000 in
theorem f26_9_ok {n d : Nat} (hd : 7 ≤ d) : ∀ (j : Nat) (s : zσ) (s2 : zσ), f26_9 n j s = some s2 → ∀ {w : zσ} {fz : Bool} {L : Nat} {xs : Nat → Int32}, zGo (zX fz L xs) d q_26 (9, [(0, .ref 1001)], [], zmk s w, 0, 0) (none, zmk s2 w, 0, 0) := by
  obtain ⟨d, rfl⟩ : ∃ d0, d = d0 + 1 := ⟨d - 1, by omega⟩
  intro j
  induction j with
  | zero => intro s s2 h; cases h
  | succ j ih =>
    intro s s2 h w fz L xs
    rw [f26_9] at h
    refine zGo_s (pc' := 10) (st' := [.ref 1001]) dd26_9 rfl ?_
    refine cGI dd26_10 rfl rfl rfl rfl ?_
    refine zGo_s (pc' := 14) (st' := [.ref 1001, .int (s.1 1001 3)]) dd26_13 rfl ?_
    refine cGI dd26_14 rfl rfl rfl rfl ?_
    rcases oite h with ⟨hc, h⟩ | ⟨hc, h⟩
    · refine zIF dd26_17 (kGeF hc) ?_
      refine zGo_s (pc' := 21) (st' := [.ref 1001]) dd26_20 rfl ?_
      refine cGF (e := 1002) dd26_21 rfl rfl rfl rfl rfl ?_
      refine zGo_s (pc' := 25) (st' := [.ref 1001, .ref 1002]) dd26_24 rfl ?_
      refine cGI dd26_25 rfl rfl rfl rfl ?_
      obtain ⟨hi, h⟩ := ochk h
      refine cBA dd26_28 rfl rfl rfl hi ?_
      refine zGo_s (pc' := 31) (st' := [.int (32 : Int32), .int (s.1 1002 (nx (s.1 1001 3)))]) dd26_29 rfl ?_
      rcases oite h with ⟨hc, h⟩ | ⟨hc, h⟩
      · refine zIT dd26_31 rfl (kEqT hc) ?_
        exact f26_48_ok hd ih h
      · refine zIF dd26_31 (kEqF hc) ?_
        refine zGo_s (pc' := 35) (st' := [.ref 1001]) dd26_34 rfl ?_
        refine cGF (e := 1002) dd26_35 rfl rfl rfl rfl rfl ?_
        refine zGo_s (pc' := 39) (st' := [.ref 1001, .ref 1002]) dd26_38 rfl ?_
        refine cGI dd26_39 rfl rfl rfl rfl ?_
        obtain ⟨hi, h⟩ := ochk h
        refine cBA dd26_42 rfl rfl rfl hi ?_
        refine zGo_s (pc' := 45) (st' := [.int (10 : Int32), .int (s.1 1002 (nx (s.1 1001 3)))]) dd26_43 rfl ?_
        rcases oite h with ⟨hc, h⟩ | ⟨hc, h⟩
        · refine zIF dd26_45 (kNeF hc) ?_
          exact f26_48_ok hd ih h
        · refine zIT dd26_45 rfl (kNeT hc) ?_
          exact f26_61_ok hd h
    · refine zIT dd26_17 rfl (kGeT hc) ?_
      exact f26_61_ok hd h
def f26 (n : Nat) (s : zσ) : Option zσ :=
    if (s.1 1001 4) = (4 : Int32) then
    some s
    else f26_9 n n s
set_option maxRecDepth 20000 in
theorem f26_ok {n d : Nat} {s : zσ} {s2 : zσ} (hd : 7 ≤ d) (h : f26 n s = some s2) {w : zσ} {fz : Bool} {L : Nat} {xs : Nat → Int32} : zGo (zX fz L xs) d q_26 (0, [(0, .ref 1001)], [], zmk s w, 0, 0) (none, zmk s2 w, 0, 0) := by
  obtain ⟨d, rfl⟩ : ∃ d0, d = d0 + 1 := ⟨d - 1, by omega⟩
  unfold f26 at h
  refine zGo_s (pc' := 1) (st' := [.ref 1001]) dd26_0 rfl ?_
  refine cGI dd26_1 rfl rfl rfl rfl ?_
  refine zGo_s (pc' := 5) (st' := [.int (4 : Int32), .int (s.1 1001 4)]) dd26_4 rfl ?_
  rcases oite h with ⟨hc, h⟩ | ⟨hc, h⟩
  · refine zIF dd26_5 (kNeF hc) ?_
    obtain rfl := ore0 h
    exact zGo_ret dd26_8 rfl rfl
  · refine zIT dd26_5 rfl (kNeT hc) ?_
    exact f26_9_ok hd _ _ _ h
/-! PH$Scanner.rewind()V -/
theorem dd25_0 : decode cX5_rewind 0 = .ok (.aload_n 0, 1) := by decide +kernel
theorem dd25_1 : decode cX5_rewind 1 = .ok (.iconst 0, 1) := by decide +kernel
theorem dd25_2 : decode cX5_rewind 2 = .ok (.putfield 23, 3) := by decide +kernel
theorem dd25_5 : decode cX5_rewind 5 = .ok (.aload_n 0, 1) := by decide +kernel
theorem dd25_6 : decode cX5_rewind 6 = .ok (.iconst 3, 1) := by decide +kernel
theorem dd25_7 : decode cX5_rewind 7 = .ok (.putfield 26, 3) := by decide +kernel
theorem dd25_10 : decode cX5_rewind 10 = .ok (.aload_n 0, 1) := by decide +kernel
theorem dd25_11 : decode cX5_rewind 11 = .ok (.invokevirtual 56, 3) := by decide +kernel
theorem dd25_14 : decode cX5_rewind 14 = .ok (.return_, 1) := by decide +kernel
def f25 (n : Nat) (s : zσ) : Option zσ :=
    zlet (sI s 1001 3 (0 : Int32)) fun u1 =>
    zlet (sI u1 1001 4 (3 : Int32)) fun u2 =>
    yb0 (f26 n u2) fun u3 =>
    some u3
set_option maxRecDepth 20000 in
theorem f25_ok {n d : Nat} {s : zσ} {s2 : zσ} (hd : 8 ≤ d) (h : f25 n s = some s2) {w : zσ} {fz : Bool} {L : Nat} {xs : Nat → Int32} : zGo (zX fz L xs) d q_25 (0, [(0, .ref 1001)], [], zmk s w, 0, 0) (none, zmk s2 w, 0, 0) := by
  obtain ⟨d, rfl⟩ : ∃ d0, d = d0 + 1 := ⟨d - 1, by omega⟩
  unfold f25 at h
  refine zGo_s (pc' := 1) (st' := [.ref 1001]) dd25_0 rfl ?_
  refine zGo_s (pc' := 2) (st' := [.int (0 : Int32), .ref 1001]) dd25_1 rfl ?_
  obtain ⟨u1, e_u1, h⟩ := olet h
  refine cPI dd25_2 rfl rfl rfl rfl rfl rfl e_u1 ?_
  refine zGo_s (pc' := 6) (st' := [.ref 1001]) dd25_5 rfl ?_
  refine zGo_s (pc' := 7) (st' := [.int (3 : Int32), .ref 1001]) dd25_6 rfl ?_
  obtain ⟨u2, e_u2, h⟩ := olet h
  refine cPI dd25_7 rfl rfl rfl rfl rfl rfl e_u2 ?_
  refine zGo_s (pc' := 11) (st' := [.ref 1001]) dd25_10 rfl ?_
  obtain ⟨u3, hq, h⟩ := obn0 h
  refine zCV0 (As := []) (rest := []) (b := 1001) (q' := q_26) dd25_11 rfl rfl (rcv_c rfl rfl (by decide)) rfl rfl rfl (f26_ok (d := d) (by omega)  hq) ?_
  obtain rfl := ore0 h
  exact zGo_ret dd25_14 rfl rfl
/-! PH$Reader.rewind()V -/
theorem dd23_0 : decode cX4_rewind 0 = .ok (.aload_n 0, 1) := by decide +kernel
theorem dd23_1 : decode cX4_rewind 1 = .ok (.getfield 27, 3) := by decide +kernel
theorem dd23_4 : decode cX4_rewind 4 = .ok (.invokevirtual 87, 3) := by decide +kernel
theorem dd23_7 : decode cX4_rewind 7 = .ok (.aload_n 0, 1) := by decide +kernel
theorem dd23_8 : decode cX4_rewind 8 = .ok (.getfield 31, 3) := by decide +kernel
theorem dd23_11 : decode cX4_rewind 11 = .ok (.iconst 0, 1) := by decide +kernel
theorem dd23_12 : decode cX4_rewind 12 = .ok (.putfield 92, 3) := by decide +kernel
theorem dd23_15 : decode cX4_rewind 15 = .ok (.aload_n 0, 1) := by decide +kernel
theorem dd23_16 : decode cX4_rewind 16 = .ok (.getfield 9, 3) := by decide +kernel
theorem dd23_19 : decode cX4_rewind 19 = .ok (.iconst 0, 1) := by decide +kernel
theorem dd23_20 : decode cX4_rewind 20 = .ok (.invokestatic 97, 3) := by decide +kernel
theorem dd23_23 : decode cX4_rewind 23 = .ok (.aload_n 0, 1) := by decide +kernel
theorem dd23_24 : decode cX4_rewind 24 = .ok (.iconst 0, 1) := by decide +kernel
theorem dd23_25 : decode cX4_rewind 25 = .ok (.putfield 42, 3) := by decide +kernel
theorem dd23_28 : decode cX4_rewind 28 = .ok (.aload_n 0, 1) := by decide +kernel
theorem dd23_29 : decode cX4_rewind 29 = .ok (.iconst 0, 1) := by decide +kernel
theorem dd23_30 : decode cX4_rewind 30 = .ok (.putfield 39, 3) := by decide +kernel
theorem dd23_33 : decode cX4_rewind 33 = .ok (.aload_n 0, 1) := by decide +kernel
theorem dd23_34 : decode cX4_rewind 34 = .ok (.iconst 0, 1) := by decide +kernel
theorem dd23_35 : decode cX4_rewind 35 = .ok (.putfield 19, 3) := by decide +kernel
theorem dd23_38 : decode cX4_rewind 38 = .ok (.aload_n 0, 1) := by decide +kernel
theorem dd23_39 : decode cX4_rewind 39 = .ok (.getfield 54, 3) := by decide +kernel
theorem dd23_42 : decode cX4_rewind 42 = .ok (.invokevirtual 103, 3) := by decide +kernel
theorem dd23_45 : decode cX4_rewind 45 = .ok (.return_, 1) := by decide +kernel
def f23 (n : Nat) (s : zσ) : Option zσ :=
    zrd 6 (s.2.2 1004 5) fun a1 =>
    yb0 (f24 n a1 s) fun u2 =>
    zrd 0 (u2.2.2 1004 6) fun a3 =>
    zlet (sI u2 a3 6 (0 : Int32)) fun u4 =>
    zlet (sF u4 1005 0 9 (0 : Int32)) fun u5 =>
    zlet (sI u5 1004 9 (0 : Int32)) fun u6 =>
    zlet (sI u6 1004 8 (0 : Int32)) fun u7 =>
    zlet (sI u7 1004 3 (0 : Int32)) fun u8 =>
    yb0 (f25 n u8) fun u9 =>
    some u9
set_option maxRecDepth 20000 in
theorem f23_ok {n d : Nat} {s : zσ} {s2 : zσ} (hd : 9 ≤ d) (h : f23 n s = some s2) {w : zσ} {fz : Bool} {L : Nat} {xs : Nat → Int32} : zGo (zX fz L xs) d q_23 (0, [(0, .ref 1004)], [], zmk s w, 0, 0) (none, zmk s2 w, 0, 0) := by
  obtain ⟨d, rfl⟩ : ∃ d0, d = d0 + 1 := ⟨d - 1, by omega⟩
  unfold f23 at h
  refine zGo_s (pc' := 1) (st' := [.ref 1004]) dd23_0 rfl ?_
  obtain ⟨a1, e_a1, c_a1, h⟩ := ordd h
  refine cGR dd23_1 rfl rfl rfl rfl e_a1 ?_
  obtain ⟨u2, hq, h⟩ := obn0 h
  refine zCV0 (As := []) (rest := []) (b := a1) (q' := q_24) dd23_4 rfl rfl (rcv_c (ck6_s c_a1).1 (ck6_s c_a1).2 (by decide)) rfl rfl rfl (f24_ok (d := d) (by omega) c_a1 hq) ?_
  refine zGo_s (pc' := 8) (st' := [.ref 1004]) dd23_7 rfl ?_
  obtain ⟨a3, e_a3, c_a3, h⟩ := ordd h
  refine cGR dd23_8 rfl rfl rfl rfl e_a3 ?_
  refine zGo_s (pc' := 12) (st' := [.int (0 : Int32), .ref a3]) dd23_11 rfl ?_
  obtain ⟨u4, e_u4, h⟩ := olet h
  refine cPI dd23_12 rfl (ck0_s c_a3).1 (ck0_s c_a3).2 rfl rfl rfl e_u4 ?_
  refine zGo_s (pc' := 16) (st' := [.ref 1004]) dd23_15 rfl ?_
  refine cGF (e := 1005) dd23_16 rfl rfl rfl rfl rfl ?_
  refine zGo_s (pc' := 20) (st' := [.int (0 : Int32), .ref 1005]) dd23_19 rfl ?_
  obtain ⟨u5, e_u5, h⟩ := olet h
  refine zCS0 (As := [.ref 1005, .int (0 : Int32)]) (rest := []) (q' := q_22) dd23_20 rfl rfl rfl rfl rfl (g_fillc rfl rfl (by decide) e_u5) ?_
  refine zGo_s (pc' := 24) (st' := [.ref 1004]) dd23_23 rfl ?_
  refine zGo_s (pc' := 25) (st' := [.int (0 : Int32), .ref 1004]) dd23_24 rfl ?_
  obtain ⟨u6, e_u6, h⟩ := olet h
  refine cPI dd23_25 rfl rfl rfl rfl rfl rfl e_u6 ?_
  refine zGo_s (pc' := 29) (st' := [.ref 1004]) dd23_28 rfl ?_
  refine zGo_s (pc' := 30) (st' := [.int (0 : Int32), .ref 1004]) dd23_29 rfl ?_
  obtain ⟨u7, e_u7, h⟩ := olet h
  refine cPI dd23_30 rfl rfl rfl rfl rfl rfl e_u7 ?_
  refine zGo_s (pc' := 34) (st' := [.ref 1004]) dd23_33 rfl ?_
  refine zGo_s (pc' := 35) (st' := [.int (0 : Int32), .ref 1004]) dd23_34 rfl ?_
  obtain ⟨u8, e_u8, h⟩ := olet h
  refine cPI dd23_35 rfl rfl rfl rfl rfl rfl e_u8 ?_
  refine zGo_s (pc' := 39) (st' := [.ref 1004]) dd23_38 rfl ?_
  refine cGF (e := 1001) dd23_39 rfl rfl rfl rfl rfl ?_
  obtain ⟨u9, hq, h⟩ := obn0 h
  refine zCV0 (As := []) (rest := []) (b := 1001) (q' := q_25) dd23_42 rfl rfl (rcv_c rfl rfl (by decide)) rfl rfl rfl (f25_ok (d := d) (by omega)  hq) ?_
  obtain rfl := ore0 h
  exact zGo_ret dd23_45 rfl rfl
/-! PH$Reader.refuse(I)I -/
theorem dd32_0 : decode cX4_refuse 0 = .ok (.aload_n 0, 1) := by decide +kernel
theorem dd32_1 : decode cX4_refuse 1 = .ok (.getfield 54, 3) := by decide +kernel
theorem dd32_4 : decode cX4_refuse 4 = .ok (.getfield 68, 3) := by decide +kernel
theorem dd32_7 : decode cX4_refuse 7 = .ok (.iconst 4, 1) := by decide +kernel
theorem dd32_8 : decode cX4_refuse 8 = .ok (.if_icmp .eq 41, 3) := by decide +kernel
theorem dd32_11 : decode cX4_refuse 11 = .ok (.aload_n 0, 1) := by decide +kernel
theorem dd32_12 : decode cX4_refuse 12 = .ok (.aload_n 0, 1) := by decide +kernel
theorem dd32_13 : decode cX4_refuse 13 = .ok (.getfield 54, 3) := by decide +kernel
theorem dd32_16 : decode cX4_refuse 16 = .ok (.getfield 68, 3) := by decide +kernel
theorem dd32_19 : decode cX4_refuse 19 = .ok (.ifCond .ne 7, 3) := by decide +kernel
theorem dd32_22 : decode cX4_refuse 22 = .ok (.iconst 1, 1) := by decide +kernel
theorem dd32_23 : decode cX4_refuse 23 = .ok (.goto 4, 3) := by decide +kernel
theorem dd32_26 : decode cX4_refuse 26 = .ok (.iload_n 1, 1) := by decide +kernel
theorem dd32_27 : decode cX4_refuse 27 = .ok (.putfield 45, 3) := by decide +kernel
theorem dd32_30 : decode cX4_refuse 30 = .ok (.aload_n 0, 1) := by decide +kernel
theorem dd32_31 : decode cX4_refuse 31 = .ok (.aload_n 0, 1) := by decide +kernel
theorem dd32_32 : decode cX4_refuse 32 = .ok (.getfield 54, 3) := by decide +kernel
theorem dd32_35 : decode cX4_refuse 35 = .ok (.getfield 239, 3) := by decide +kernel
theorem dd32_38 : decode cX4_refuse 38 = .ok (.putfield 48, 3) := by decide +kernel
theorem dd32_41 : decode cX4_refuse 41 = .ok (.aload_n 0, 1) := by decide +kernel
theorem dd32_42 : decode cX4_refuse 42 = .ok (.getfield 54, 3) := by decide +kernel
theorem dd32_45 : decode cX4_refuse 45 = .ok (.iconst 4, 1) := by decide +kernel
theorem dd32_46 : decode cX4_refuse 46 = .ok (.putfield 68, 3) := by decide +kernel
theorem dd32_49 : decode cX4_refuse 49 = .ok (.iconst (-1), 1) := by decide +kernel
theorem dd32_50 : decode cX4_refuse 50 = .ok (.ireturn, 1) := by decide +kernel
def f32_27 (n : Nat) (y0 : Int32) (s : zσ) : Option (Int32 × zσ) :=
    zlet (sI s 1004 10 y0) fun u1 =>
    zlet (sI u1 1004 11 (u1.1 1001 5)) fun u2 =>
    zlet (sI u2 1001 4 (4 : Int32)) fun u3 =>
    some ((-1 : Int32), u3)
set_option maxRecDepth 20000 in
theorem f32_27_ok {n d : Nat} {y0 : Int32} {s : zσ} {v : Int32} {s2 : zσ} (hd : 0 ≤ d) (h : f32_27 n y0 s = some (v, s2)) {w : zσ} {fz : Bool} {L : Nat} {xs : Nat → Int32} : zGo (zX fz L xs) d q_32 (27, [(0, .ref 1004)], [.int y0, .ref 1004], zmk s w, 0, 0) (some (.int v), zmk s2 w, 0, 0) := by
  unfold f32_27 at h
  obtain ⟨u1, e_u1, h⟩ := olet h
  refine cPI dd32_27 rfl rfl rfl rfl rfl rfl e_u1 ?_
  refine zGo_s (pc' := 31) (st' := [.ref 1004]) dd32_30 rfl ?_
  refine zGo_s (pc' := 32) (st' := [.ref 1004, .ref 1004]) dd32_31 rfl ?_
  refine cGF (e := 1001) dd32_32 rfl rfl rfl rfl rfl ?_
  refine cGI dd32_35 rfl rfl rfl rfl ?_
  obtain ⟨u2, e_u2, h⟩ := olet h
  refine cPI dd32_38 rfl rfl rfl rfl rfl rfl e_u2 ?_
  refine zGo_s (pc' := 42) (st' := [.ref 1004]) dd32_41 rfl ?_
  refine cGF (e := 1001) dd32_42 rfl rfl rfl rfl rfl ?_
  refine zGo_s (pc' := 46) (st' := [.int (4 : Int32), .ref 1001]) dd32_45 rfl ?_
  obtain ⟨u3, e_u3, h⟩ := olet h
  refine cPI dd32_46 rfl rfl rfl rfl rfl rfl e_u3 ?_
  refine zGo_s (pc' := 50) (st' := [.int (-1 : Int32)]) dd32_49 rfl ?_
  obtain ⟨rfl, rfl⟩ := oret h
  exact zGo_ret dd32_50 rfl rfl
def f32 (n : Nat) (x1 : Int32) (s : zσ) : Option (Int32 × zσ) :=
    if (s.1 1001 4) = (4 : Int32) then
    some ((-1 : Int32), s)
    else if (s.1 1001 4) = (0 : Int32) then
    f32_27 n (1 : Int32) s
    else f32_27 n x1 s
set_option maxRecDepth 20000 in
theorem f32_ok {n d : Nat} {x1 : Int32} {s : zσ} {v : Int32} {s2 : zσ} (hd : 0 ≤ d) (h : f32 n x1 s = some (v, s2)) {w : zσ} {fz : Bool} {L : Nat} {xs : Nat → Int32} : zGo (zX fz L xs) d q_32 (0, [(0, .ref 1004), (1, .int x1)], [], zmk s w, 0, 0) (some (.int v), zmk s2 w, 0, 0) := by
  unfold f32 at h
  refine zGo_s (pc' := 1) (st' := [.ref 1004]) dd32_0 rfl ?_
  refine cGF (e := 1001) dd32_1 rfl rfl rfl rfl rfl ?_
  refine cGI dd32_4 rfl rfl rfl rfl ?_
  refine zGo_s (pc' := 8) (st' := [.int (4 : Int32), .int (s.1 1001 4)]) dd32_7 rfl ?_
  rcases oite h with ⟨hc, h⟩ | ⟨hc, h⟩
  · refine zIT dd32_8 rfl (kEqT hc) ?_
    refine zGo_s (pc' := 50) (st' := [.int (-1 : Int32)]) dd32_49 rfl ?_
    obtain ⟨rfl, rfl⟩ := oret h
    exact zGo_ret dd32_50 rfl rfl
  · refine zIF dd32_8 (kEqF hc) ?_
    refine zGo_s (pc' := 12) (st' := [.ref 1004]) dd32_11 rfl ?_
    refine zGo_s (pc' := 13) (st' := [.ref 1004, .ref 1004]) dd32_12 rfl ?_
    refine cGF (e := 1001) dd32_13 rfl rfl rfl rfl rfl ?_
    refine cGI dd32_16 rfl rfl rfl rfl ?_
    rcases oite h with ⟨hc, h⟩ | ⟨hc, h⟩
    · refine zUF dd32_19 (kNeF hc) ?_
      refine zGo_s (pc' := 23) (st' := [.int (1 : Int32), .ref 1004]) dd32_22 rfl ?_
      refine zGo_s (pc' := 27) (st' := [.int (1 : Int32), .ref 1004]) dd32_23 rfl ?_
      exact zGo_lv (lv := [(0, .ref 1004)]) ⟨by simp, by simp, by simp⟩ (f32_27_ok hd h)
    · refine zUT dd32_19 rfl (kNeT hc) ?_
      refine zGo_s (pc' := 27) (st' := [.int x1, .ref 1004]) dd32_26 rfl ?_
      exact zGo_lv (lv := [(0, .ref 1004)]) ⟨by simp, by simp, by simp⟩ (f32_27_ok hd h)
/-! PH$Text.numberOf(IJ)I -/
theorem dd36_0 : decode cX9_numberOf 0 = .ok (.iconst 0, 1) := by decide +kernel
theorem dd36_1 : decode cX9_numberOf 1 = .ok (.istore 4, 2) := by decide +kernel
theorem dd36_3 : decode cX9_numberOf 3 = .ok (.iload 4, 2) := by decide +kernel
theorem dd36_5 : decode cX9_numberOf 5 = .ok (.aload_n 0, 1) := by decide +kernel
theorem dd36_6 : decode cX9_numberOf 6 = .ok (.getfield 16, 3) := by decide +kernel
theorem dd36_9 : decode cX9_numberOf 9 = .ok (.iload_n 1, 1) := by decide +kernel
theorem dd36_10 : decode cX9_numberOf 10 = .ok (.iaload, 1) := by decide +kernel
theorem dd36_11 : decode cX9_numberOf 11 = .ok (.if_icmp .ge 26, 3) := by decide +kernel
theorem dd36_14 : decode cX9_numberOf 14 = .ok (.aload_n 0, 1) := by decide +kernel
theorem dd36_15 : decode cX9_numberOf 15 = .ok (.getfield 11, 3) := by decide +kernel
theorem dd36_18 : decode cX9_numberOf 18 = .ok (.iload_n 1, 1) := by decide +kernel
theorem dd36_19 : decode cX9_numberOf 19 = .ok (.aaload, 1) := by decide +kernel
theorem dd36_20 : decode cX9_numberOf 20 = .ok (.iload 4, 2) := by decide +kernel
theorem dd36_22 : decode cX9_numberOf 22 = .ok (.laload, 1) := by decide +kernel
theorem dd36_23 : decode cX9_numberOf 23 = .ok (.lload_n 2, 1) := by decide +kernel
theorem dd36_24 : decode cX9_numberOf 24 = .ok (.lcmp, 1) := by decide +kernel
theorem dd36_25 : decode cX9_numberOf 25 = .ok (.ifCond .ne 6, 3) := by decide +kernel
theorem dd36_28 : decode cX9_numberOf 28 = .ok (.iload 4, 2) := by decide +kernel
theorem dd36_30 : decode cX9_numberOf 30 = .ok (.ireturn, 1) := by decide +kernel
theorem dd36_31 : decode cX9_numberOf 31 = .ok (.iinc 4 1, 3) := by decide +kernel
theorem dd36_34 : decode cX9_numberOf 34 = .ok (.goto (-31), 3) := by decide +kernel
theorem dd36_37 : decode cX9_numberOf 37 = .ok (.iconst (-1), 1) := by decide +kernel
theorem dd36_38 : decode cX9_numberOf 38 = .ok (.ireturn, 1) := by decide +kernel
def f36_3 (n : Nat) : Nat → Nat → Int32 → Int64 → Int32 → zσ → Option (Int32 × zσ)
  | 0, _, _, _, _, _ => none
  | j + 1, x0, x1, x2, x4, s =>
    if zin? x1 9 = true then
    if x4 < (s.1 (x0 + 11) (nx x1)) then
    if zin? x1 9 = true then
    zrw (s.2.2 (x0 + 1) (nx x1)) fun a1 =>
    if zin? x4 8 = true then
    if (s.2.1 a1 (nx x4)) = x2 then
    some (x4, s)
    else f36_3 n j x0 x1 x2 (x4 + (1 : Int32)) s
    else none
    else none
    else some ((-1 : Int32), s)
    else none
set_option maxRecDepth 20000 in
theorem f36_3_ok {n d : Nat} (hd : 0 ≤ d) : ∀ (j : Nat) (x0 : Nat) (x1 : Int32) (x2 : Int64) (x4 : Int32) (s : zσ) (v : Int32) (s2 : zσ), zck 9 x0 = true → f36_3 n j x0 x1 x2 x4 s = some (v, s2) → ∀ {w : zσ} {fz : Bool} {L : Nat} {xs : Nat → Int32}, zGo (zX fz L xs) d q_36 (3, [(0, .ref x0), (1, .int x1), (2, .long x2), (4, .int x4)], [], zmk s w, 0, 0) (some (.int v), zmk s2 w, 0, 0) := by
  intro j
  induction j with
  | zero => intro x0 x1 x2 x4 s v s2 hx0 h; cases h
  | succ j ih =>
    intro x0 x1 x2 x4 s v s2 hx0 h w fz L xs
    rw [f36_3] at h
    refine zGo_s (pc' := 5) (st' := [.int x4]) dd36_3 rfl ?_
    refine zGo_s (pc' := 6) (st' := [.ref x0, .int x4]) dd36_5 rfl ?_
    refine cGF (e := (x0 + 11)) dd36_6 rfl (ck9_s hx0).1 (ck9_s hx0).2 rfl (cf9_1 hx0).1 ?_
    refine zGo_s (pc' := 10) (st' := [.int x1, .ref (x0 + 11), .int x4]) dd36_9 rfl ?_
    obtain ⟨hi, h⟩ := ochk h
    refine cIA dd36_10 (cf9_1 hx0).2.1 (cf9_1 hx0).2.2 hi ?_
    rcases oite h with ⟨hc, h⟩ | ⟨hc, h⟩
    · refine zIF dd36_11 (kGeF hc) ?_
      refine zGo_s (pc' := 15) (st' := [.ref x0]) dd36_14 rfl ?_
      refine cGF (e := (x0 + 1)) dd36_15 rfl (ck9_s hx0).1 (ck9_s hx0).2 rfl (cf9_0 hx0).1 ?_
      refine zGo_s (pc' := 19) (st' := [.int x1, .ref (x0 + 1)]) dd36_18 rfl ?_
      obtain ⟨hi, h⟩ := ochk h
      obtain ⟨a1, e_a1, c_a1, h⟩ := orww h
      refine cAA dd36_19 (cf9_0 hx0).2.1 (cf9_0 hx0).2.2 (Or.inr rfl) hi e_a1 ?_
      refine zGo_s (pc' := 22) (st' := [.int x4, .ref a1]) dd36_20 rfl ?_
      obtain ⟨hi, h⟩ := ochk h
      refine cLA dd36_22 (crw c_a1).1 (crw c_a1).2 hi ?_
      refine zGo_s (pc' := 24) (st' := [.long x2, .long (s.2.1 a1 (nx x4))]) dd36_23 rfl ?_
      refine zGo_s (pc' := 25) (st' := [.int (lg_cmp (s.2.1 a1 (nx x4)) x2)]) dd36_24 rfl ?_
      rcases oite h with ⟨hc, h⟩ | ⟨hc, h⟩
      · refine zUF dd36_25 (kcNeF hc) ?_
        refine zGo_s (pc' := 30) (st' := [.int x4]) dd36_28 rfl ?_
        obtain ⟨rfl, rfl⟩ := oret h
        exact zGo_ret dd36_30 rfl rfl
      · refine zUT dd36_25 rfl (kcNeT hc) ?_
        refine zGo_s (pc' := 34) (st' := []) (lv' := [(4, .int (x4 + (1 : Int32))), (0, .ref x0), (1, .int x1), (2, .long x2)]) dd36_31 rfl ?_
        refine zGo_s (pc' := 3) (st' := []) dd36_34 rfl ?_
        exact zGo_lv (lv := [(0, .ref x0), (1, .int x1), (2, .long x2), (4, .int (x4 + (1 : Int32)))]) ⟨by simp, by simp, by simp⟩ (ih _ _ _ _ _ _ _ hx0 h)
    · refine zIT dd36_11 rfl (kGeT hc) ?_
      refine zGo_s (pc' := 38) (st' := [.int (-1 : Int32)]) dd36_37 rfl ?_
      obtain ⟨rfl, rfl⟩ := oret h
      exact zGo_ret dd36_38 rfl rfl
def f36 (n : Nat) (x0 : Nat) (x1 : Int32) (x2 : Int64) (s : zσ) : Option (Int32 × zσ) :=
    f36_3 n n x0 x1 x2 (0 : Int32) s
set_option maxRecDepth 20000 in
theorem f36_ok {n d : Nat} {x0 : Nat} {x1 : Int32} {x2 : Int64} {s : zσ} {v : Int32} {s2 : zσ} (hd : 0 ≤ d) (hx0 : zck 9 x0 = true) (h : f36 n x0 x1 x2 s = some (v, s2)) {w : zσ} {fz : Bool} {L : Nat} {xs : Nat → Int32} : zGo (zX fz L xs) d q_36 (0, [(0, .ref x0), (1, .int x1), (2, .long x2)], [], zmk s w, 0, 0) (some (.int v), zmk s2 w, 0, 0) := by
  unfold f36 at h
  refine zGo_s (pc' := 1) (st' := [.int (0 : Int32)]) dd36_0 rfl ?_
  refine zGo_s (pc' := 3) (st' := []) (lv' := [(4, .int (0 : Int32)), (0, .ref x0), (1, .int x1), (2, .long x2)]) dd36_1 rfl ?_
  exact zGo_lv (lv := [(0, .ref x0), (1, .int x1), (2, .long x2), (4, .int (0 : Int32))]) ⟨by simp, by simp, by simp⟩ (f36_3_ok hd _ _ _ _ _ _ _ _ hx0 h)
/-! PH$Text.isTold(J)Z -/
theorem dd35_0 : decode cX9_isTold 0 = .ok (.iconst 0, 1) := by decide +kernel
theorem dd35_1 : decode cX9_isTold 1 = .ok (.istore_n 3, 1) := by decide +kernel
theorem dd35_2 : decode cX9_isTold 2 = .ok (.iload_n 3, 1) := by decide +kernel
theorem dd35_3 : decode cX9_isTold 3 = .ok (.bipush 9, 2) := by decide +kernel
theorem dd35_5 : decode cX9_isTold 5 = .ok (.if_icmp .ge 21, 3) := by decide +kernel
theorem dd35_8 : decode cX9_isTold 8 = .ok (.aload_n 0, 1) := by decide +kernel
theorem dd35_9 : decode cX9_isTold 9 = .ok (.iload_n 3, 1) := by decide +kernel
theorem dd35_10 : decode cX9_isTold 10 = .ok (.lload_n 1, 1) := by decide +kernel
theorem dd35_11 : decode cX9_isTold 11 = .ok (.invokevirtual 62, 3) := by decide +kernel
theorem dd35_14 : decode cX9_isTold 14 = .ok (.iconst (-1), 1) := by decide +kernel
theorem dd35_15 : decode cX9_isTold 15 = .ok (.if_icmp .eq 5, 3) := by decide +kernel
theorem dd35_18 : decode cX9_isTold 18 = .ok (.iconst 1, 1) := by decide +kernel
theorem dd35_19 : decode cX9_isTold 19 = .ok (.ireturn, 1) := by decide +kernel
theorem dd35_20 : decode cX9_isTold 20 = .ok (.iinc 3 1, 3) := by decide +kernel
theorem dd35_23 : decode cX9_isTold 23 = .ok (.goto (-21), 3) := by decide +kernel
theorem dd35_26 : decode cX9_isTold 26 = .ok (.iconst 0, 1) := by decide +kernel
theorem dd35_27 : decode cX9_isTold 27 = .ok (.ireturn, 1) := by decide +kernel
def f35_2 (n : Nat) : Nat → Nat → Int64 → Int32 → zσ → Option (Int32 × zσ)
  | 0, _, _, _, _ => none
  | j + 1, x0, x1, x3, s =>
    if x3 < (9 : Int32) then
    yb1 (f36 n x0 x3 x1 s) fun v2 u1 =>
    if v2 = (-1 : Int32) then
    f35_2 n j x0 x1 (x3 + (1 : Int32)) u1
    else some ((1 : Int32), u1)
    else some ((0 : Int32), s)
set_option maxRecDepth 20000 in
theorem f35_2_ok {n d : Nat} (hd : 1 ≤ d) : ∀ (j : Nat) (x0 : Nat) (x1 : Int64) (x3 : Int32) (s : zσ) (v : Int32) (s2 : zσ), zck 9 x0 = true → f35_2 n j x0 x1 x3 s = some (v, s2) → ∀ {w : zσ} {fz : Bool} {L : Nat} {xs : Nat → Int32}, zGo (zX fz L xs) d q_35 (2, [(0, .ref x0), (1, .long x1), (3, .int x3)], [], zmk s w, 0, 0) (some (.int v), zmk s2 w, 0, 0) := by
  obtain ⟨d, rfl⟩ : ∃ d0, d = d0 + 1 := ⟨d - 1, by omega⟩
  intro j
  induction j with
  | zero => intro x0 x1 x3 s v s2 hx0 h; cases h
  | succ j ih =>
    intro x0 x1 x3 s v s2 hx0 h w fz L xs
    rw [f35_2] at h
    refine zGo_s (pc' := 3) (st' := [.int x3]) dd35_2 rfl ?_
    refine zGo_s (pc' := 5) (st' := [.int (9 : Int32), .int x3]) dd35_3 rfl ?_
    rcases oite h with ⟨hc, h⟩ | ⟨hc, h⟩
    · refine zIF dd35_5 (kGeF hc) ?_
      refine zGo_s (pc' := 9) (st' := [.ref x0]) dd35_8 rfl ?_
      refine zGo_s (pc' := 10) (st' := [.int x3, .ref x0]) dd35_9 rfl ?_
      refine zGo_s (pc' := 11) (st' := [.long x1, .int x3, .ref x0]) dd35_10 rfl ?_
      obtain ⟨v2, u1, hq, h⟩ := obnd h
      refine zCV1 (As := [.int x3, .long x1]) (rest := []) (b := x0) (q' := q_36) dd35_11 rfl rfl (rcv_c (ck9_s hx0).1 (ck9_s hx0).2 (by decide)) rfl rfl rfl (f36_ok (d := d) (by omega) hx0 hq) ?_
      refine zGo_s (pc' := 15) (st' := [.int (-1 : Int32), .int v2]) dd35_14 rfl ?_
      rcases oite h with ⟨hc, h⟩ | ⟨hc, h⟩
      · refine zIT dd35_15 rfl (kEqT hc) ?_
        refine zGo_s (pc' := 23) (st' := []) (lv' := [(3, .int (x3 + (1 : Int32))), (0, .ref x0), (1, .long x1)]) dd35_20 rfl ?_
        refine zGo_s (pc' := 2) (st' := []) dd35_23 rfl ?_
        exact zGo_lv (lv := [(0, .ref x0), (1, .long x1), (3, .int (x3 + (1 : Int32)))]) ⟨by simp, by simp, by simp⟩ (ih _ _ _ _ _ _ hx0 h)
      · refine zIF dd35_15 (kEqF hc) ?_
        refine zGo_s (pc' := 19) (st' := [.int (1 : Int32)]) dd35_18 rfl ?_
        obtain ⟨rfl, rfl⟩ := oret h
        exact zGo_ret dd35_19 rfl rfl
    · refine zIT dd35_5 rfl (kGeT hc) ?_
      refine zGo_s (pc' := 27) (st' := [.int (0 : Int32)]) dd35_26 rfl ?_
      obtain ⟨rfl, rfl⟩ := oret h
      exact zGo_ret dd35_27 rfl rfl
def f35 (n : Nat) (x0 : Nat) (x1 : Int64) (s : zσ) : Option (Int32 × zσ) :=
    f35_2 n n x0 x1 (0 : Int32) s
set_option maxRecDepth 20000 in
theorem f35_ok {n d : Nat} {x0 : Nat} {x1 : Int64} {s : zσ} {v : Int32} {s2 : zσ} (hd : 1 ≤ d) (hx0 : zck 9 x0 = true) (h : f35 n x0 x1 s = some (v, s2)) {w : zσ} {fz : Bool} {L : Nat} {xs : Nat → Int32} : zGo (zX fz L xs) d q_35 (0, [(0, .ref x0), (1, .long x1)], [], zmk s w, 0, 0) (some (.int v), zmk s2 w, 0, 0) := by
  obtain ⟨d, rfl⟩ : ∃ d0, d = d0 + 1 := ⟨d - 1, by omega⟩
  unfold f35 at h
  refine zGo_s (pc' := 1) (st' := [.int (0 : Int32)]) dd35_0 rfl ?_
  refine zGo_s (pc' := 2) (st' := []) (lv' := [(3, .int (0 : Int32)), (0, .ref x0), (1, .long x1)]) dd35_1 rfl ?_
  exact zGo_lv (lv := [(0, .ref x0), (1, .long x1), (3, .int (0 : Int32))]) ⟨by simp, by simp, by simp⟩ (f35_2_ok hd _ _ _ _ _ _ _ hx0 h)
