/-! PH$Gates.canAsk(I)Z -/
theorem dd108_0 : decode cX2_canAsk 0 = .ok (.iconst 0, 1) := by decide +kernel
theorem dd108_1 : decode cX2_canAsk 1 = .ok (.istore_n 2, 1) := by decide +kernel
theorem dd108_2 : decode cX2_canAsk 2 = .ok (.iload_n 2, 1) := by decide +kernel
theorem dd108_3 : decode cX2_canAsk 3 = .ok (.iconst 4, 1) := by decide +kernel
theorem dd108_4 : decode cX2_canAsk 4 = .ok (.if_icmp .ge 25, 3) := by decide +kernel
theorem dd108_7 : decode cX2_canAsk 7 = .ok (.aload_n 0, 1) := by decide +kernel
theorem dd108_8 : decode cX2_canAsk 8 = .ok (.getfield 9, 3) := by decide +kernel
theorem dd108_11 : decode cX2_canAsk 11 = .ok (.iload_n 2, 1) := by decide +kernel
theorem dd108_12 : decode cX2_canAsk 12 = .ok (.iaload, 1) := by decide +kernel
theorem dd108_13 : decode cX2_canAsk 13 = .ok (.iload_n 1, 1) := by decide +kernel
theorem dd108_14 : decode cX2_canAsk 14 = .ok (.iload_n 2, 1) := by decide +kernel
theorem dd108_15 : decode cX2_canAsk 15 = .ok (.invokestatic 45, 3) := by decide +kernel
theorem dd108_18 : decode cX2_canAsk 18 = .ok (.if_icmp .ge 5, 3) := by decide +kernel
theorem dd108_21 : decode cX2_canAsk 21 = .ok (.iconst 0, 1) := by decide +kernel
theorem dd108_22 : decode cX2_canAsk 22 = .ok (.ireturn, 1) := by decide +kernel
theorem dd108_23 : decode cX2_canAsk 23 = .ok (.iinc 2 1, 3) := by decide +kernel
theorem dd108_26 : decode cX2_canAsk 26 = .ok (.goto (-24), 3) := by decide +kernel
theorem dd108_29 : decode cX2_canAsk 29 = .ok (.iconst 1, 1) := by decide +kernel
theorem dd108_30 : decode cX2_canAsk 30 = .ok (.ireturn, 1) := by decide +kernel
def f108_2 (n : Nat) : Nat → Int32 → Int32 → zσ → Option (Int32 × zσ)
  | 0, _, _, _ => none
  | j + 1, x1, x2, s =>
    if x2 < (4 : Int32) then
    if zin? x2 4 = true then
    yb1 (f109 n x1 x2 s) fun v2 u1 =>
    if (s.1 1015 (nx x2)) < v2 then
    some ((0 : Int32), u1)
    else f108_2 n j x1 (x2 + (1 : Int32)) u1
    else none
    else some ((1 : Int32), s)
set_option maxRecDepth 20000 in
theorem f108_2_ok {n d : Nat} (hd : 1 ≤ d) : ∀ (j : Nat) (x1 : Int32) (x2 : Int32) (s : zσ) (v : Int32) (s2 : zσ), f108_2 n j x1 x2 s = some (v, s2) → ∀ {w : zσ} {fz : Bool} {L : Nat} {xs : Nat → Int32}, zGo (zX fz L xs) d q_108 (2, [(0, .ref 1014), (1, .int x1), (2, .int x2)], [], zmk s w, 0, 0) (some (.int v), zmk s2 w, 0, 0) := by
  obtain ⟨d, rfl⟩ : ∃ d0, d = d0 + 1 := ⟨d - 1, by omega⟩
  intro j
  induction j with
  | zero => intro x1 x2 s v s2 h; cases h
  | succ j ih =>
    intro x1 x2 s v s2 h w fz L xs
    rw [f108_2] at h
    refine zGo_s (pc' := 3) (st' := [.int x2]) dd108_2 rfl ?_
    refine zGo_s (pc' := 4) (st' := [.int (4 : Int32), .int x2]) dd108_3 rfl ?_
    rcases oite h with ⟨hc, h⟩ | ⟨hc, h⟩
    · refine zIF dd108_4 (kGeF hc) ?_
      refine zGo_s (pc' := 8) (st' := [.ref 1014]) dd108_7 rfl ?_
      refine cGF (e := 1015) dd108_8 rfl rfl rfl rfl rfl ?_
      refine zGo_s (pc' := 12) (st' := [.int x2, .ref 1015]) dd108_11 rfl ?_
      obtain ⟨hi, h⟩ := ochk h
      refine cIA dd108_12 rfl rfl hi ?_
      refine zGo_s (pc' := 14) (st' := [.int x1, .int (s.1 1015 (nx x2))]) dd108_13 rfl ?_
      refine zGo_s (pc' := 15) (st' := [.int x2, .int x1, .int (s.1 1015 (nx x2))]) dd108_14 rfl ?_
      obtain ⟨v2, u1, hq, h⟩ := obnd h
      refine zCS1 (As := [.int x1, .int x2]) (rest := [.int (s.1 1015 (nx x2))]) (q' := q_109) dd108_15 rfl rfl rfl rfl rfl (f109_ok (d := d) (by omega)  hq) ?_
      rcases oite h with ⟨hc, h⟩ | ⟨hc, h⟩
      · refine zIF dd108_18 (kGeF hc) ?_
        refine zGo_s (pc' := 22) (st' := [.int (0 : Int32)]) dd108_21 rfl ?_
        obtain ⟨rfl, rfl⟩ := oret h
        exact zGo_ret dd108_22 rfl rfl
      · refine zIT dd108_18 rfl (kGeT hc) ?_
        refine zGo_s (pc' := 26) (st' := []) (lv' := [(2, .int (x2 + (1 : Int32))), (0, .ref 1014), (1, .int x1)]) dd108_23 rfl ?_
        refine zGo_s (pc' := 2) (st' := []) dd108_26 rfl ?_
        exact zGo_lv (lv := [(0, .ref 1014), (1, .int x1), (2, .int (x2 + (1 : Int32)))]) ⟨by simp, by simp, by simp⟩ (ih _ _ _ _ _ h)
    · refine zIT dd108_4 rfl (kGeT hc) ?_
      refine zGo_s (pc' := 30) (st' := [.int (1 : Int32)]) dd108_29 rfl ?_
      obtain ⟨rfl, rfl⟩ := oret h
      exact zGo_ret dd108_30 rfl rfl
def f108 (n : Nat) (x1 : Int32) (s : zσ) : Option (Int32 × zσ) :=
    f108_2 n n x1 (0 : Int32) s
set_option maxRecDepth 20000 in
theorem f108_ok {n d : Nat} {x1 : Int32} {s : zσ} {v : Int32} {s2 : zσ} (hd : 1 ≤ d) (h : f108 n x1 s = some (v, s2)) {w : zσ} {fz : Bool} {L : Nat} {xs : Nat → Int32} : zGo (zX fz L xs) d q_108 (0, [(0, .ref 1014), (1, .int x1)], [], zmk s w, 0, 0) (some (.int v), zmk s2 w, 0, 0) := by
  obtain ⟨d, rfl⟩ : ∃ d0, d = d0 + 1 := ⟨d - 1, by omega⟩
  unfold f108 at h
  refine zGo_s (pc' := 1) (st' := [.int (0 : Int32)]) dd108_0 rfl ?_
  refine zGo_s (pc' := 2) (st' := []) (lv' := [(2, .int (0 : Int32)), (0, .ref 1014), (1, .int x1)]) dd108_1 rfl ?_
  exact zGo_lv (lv := [(0, .ref 1014), (1, .int x1), (2, .int (0 : Int32))]) ⟨by simp, by simp, by simp⟩ (f108_2_ok hd _ _ _ _ _ _ h)
/-! PH$Gates.allEntered(I)I -/
theorem dd110_0 : decode cX2_allEntered 0 = .ok (.iconst 0, 1) := by decide +kernel
theorem dd110_1 : decode cX2_allEntered 1 = .ok (.istore_n 2, 1) := by decide +kernel
theorem dd110_2 : decode cX2_allEntered 2 = .ok (.iconst 0, 1) := by decide +kernel
theorem dd110_3 : decode cX2_allEntered 3 = .ok (.istore_n 3, 1) := by decide +kernel
theorem dd110_4 : decode cX2_allEntered 4 = .ok (.iload_n 3, 1) := by decide +kernel
theorem dd110_5 : decode cX2_allEntered 5 = .ok (.bipush 8, 2) := by decide +kernel
theorem dd110_7 : decode cX2_allEntered 7 = .ok (.if_icmp .ge 23, 3) := by decide +kernel
theorem dd110_10 : decode cX2_allEntered 10 = .ok (.iload_n 2, 1) := by decide +kernel
theorem dd110_11 : decode cX2_allEntered 11 = .ok (.aload_n 0, 1) := by decide +kernel
theorem dd110_12 : decode cX2_allEntered 12 = .ok (.getfield 18, 3) := by decide +kernel
theorem dd110_15 : decode cX2_allEntered 15 = .ok (.iload_n 1, 1) := by decide +kernel
theorem dd110_16 : decode cX2_allEntered 16 = .ok (.bipush 8, 2) := by decide +kernel
theorem dd110_18 : decode cX2_allEntered 18 = .ok (.imul, 1) := by decide +kernel
theorem dd110_19 : decode cX2_allEntered 19 = .ok (.iload_n 3, 1) := by decide +kernel
theorem dd110_20 : decode cX2_allEntered 20 = .ok (.iadd, 1) := by decide +kernel
theorem dd110_21 : decode cX2_allEntered 21 = .ok (.iaload, 1) := by decide +kernel
theorem dd110_22 : decode cX2_allEntered 22 = .ok (.iadd, 1) := by decide +kernel
theorem dd110_23 : decode cX2_allEntered 23 = .ok (.istore_n 2, 1) := by decide +kernel
theorem dd110_24 : decode cX2_allEntered 24 = .ok (.iinc 3 1, 3) := by decide +kernel
theorem dd110_27 : decode cX2_allEntered 27 = .ok (.goto (-23), 3) := by decide +kernel
theorem dd110_30 : decode cX2_allEntered 30 = .ok (.iload_n 2, 1) := by decide +kernel
theorem dd110_31 : decode cX2_allEntered 31 = .ok (.ireturn, 1) := by decide +kernel
def f110_4 (n : Nat) : Nat → Int32 → Int32 → Int32 → zσ → Option (Int32 × zσ)
  | 0, _, _, _, _ => none
  | j + 1, x1, x2, x3, s =>
    if x3 < (8 : Int32) then
    if zin? ((x1 * (8 : Int32)) + x3) 32 = true then
    zlet ((x2 + (s.1 1017 (nx ((x1 * (8 : Int32)) + x3))))) fun v1 =>
    f110_4 n j x1 v1 (x3 + (1 : Int32)) s
    else none
    else some (x2, s)
set_option maxRecDepth 20000 in
theorem f110_4_ok {n d : Nat} (hd : 0 ≤ d) : ∀ (j : Nat) (x1 : Int32) (x2 : Int32) (x3 : Int32) (s : zσ) (v : Int32) (s2 : zσ), f110_4 n j x1 x2 x3 s = some (v, s2) → ∀ {w : zσ} {fz : Bool} {L : Nat} {xs : Nat → Int32}, zGo (zX fz L xs) d q_110 (4, [(0, .ref 1014), (1, .int x1), (2, .int x2), (3, .int x3)], [], zmk s w, 0, 0) (some (.int v), zmk s2 w, 0, 0) := by
  intro j
  induction j with
  | zero => intro x1 x2 x3 s v s2 h; cases h
  | succ j ih =>
    intro x1 x2 x3 s v s2 h w fz L xs
    rw [f110_4] at h
    refine zGo_s (pc' := 5) (st' := [.int x3]) dd110_4 rfl ?_
    refine zGo_s (pc' := 7) (st' := [.int (8 : Int32), .int x3]) dd110_5 rfl ?_
    rcases oite h with ⟨hc, h⟩ | ⟨hc, h⟩
    · refine zIF dd110_7 (kGeF hc) ?_
      refine zGo_s (pc' := 11) (st' := [.int x2]) dd110_10 rfl ?_
      refine zGo_s (pc' := 12) (st' := [.ref 1014, .int x2]) dd110_11 rfl ?_
      refine cGF (e := 1017) dd110_12 rfl rfl rfl rfl rfl ?_
      refine zGo_s (pc' := 16) (st' := [.int x1, .ref 1017, .int x2]) dd110_15 rfl ?_
      refine zGo_s (pc' := 18) (st' := [.int (8 : Int32), .int x1, .ref 1017, .int x2]) dd110_16 rfl ?_
      refine zGo_s (pc' := 19) (st' := [.int (x1 * (8 : Int32)), .ref 1017, .int x2]) dd110_18 rfl ?_
      refine zGo_s (pc' := 20) (st' := [.int x3, .int (x1 * (8 : Int32)), .ref 1017, .int x2]) dd110_19 rfl ?_
      refine zGo_s (pc' := 21) (st' := [.int ((x1 * (8 : Int32)) + x3), .ref 1017, .int x2]) dd110_20 rfl ?_
      obtain ⟨hi, h⟩ := ochk h
      refine cIA dd110_21 rfl rfl hi ?_
      refine zGo_s (pc' := 23) (st' := [.int (x2 + (s.1 1017 (nx ((x1 * (8 : Int32)) + x3))))]) dd110_22 rfl ?_
      obtain ⟨v1, e_v1, h⟩ := olet h
      refine zGo_is1 e_v1 dd110_23 (x' := (24, [(2, .int v1), (0, .ref 1014), (1, .int x1), (3, .int x3)], [], _, _, _)) rfl ?_
      refine zGo_s (pc' := 27) (st' := []) (lv' := [(3, .int (x3 + (1 : Int32))), (2, .int v1), (0, .ref 1014), (1, .int x1)]) dd110_24 rfl ?_
      refine zGo_s (pc' := 4) (st' := []) dd110_27 rfl ?_
      exact zGo_lv (lv := [(0, .ref 1014), (1, .int x1), (2, .int v1), (3, .int (x3 + (1 : Int32)))]) ⟨by simp, by simp, by simp⟩ (ih _ _ _ _ _ _ h)
    · refine zIT dd110_7 rfl (kGeT hc) ?_
      refine zGo_s (pc' := 31) (st' := [.int x2]) dd110_30 rfl ?_
      obtain ⟨rfl, rfl⟩ := oret h
      exact zGo_ret dd110_31 rfl rfl
def f110 (n : Nat) (x1 : Int32) (s : zσ) : Option (Int32 × zσ) :=
    f110_4 n n x1 (0 : Int32) (0 : Int32) s
set_option maxRecDepth 20000 in
theorem f110_ok {n d : Nat} {x1 : Int32} {s : zσ} {v : Int32} {s2 : zσ} (hd : 0 ≤ d) (h : f110 n x1 s = some (v, s2)) {w : zσ} {fz : Bool} {L : Nat} {xs : Nat → Int32} : zGo (zX fz L xs) d q_110 (0, [(0, .ref 1014), (1, .int x1)], [], zmk s w, 0, 0) (some (.int v), zmk s2 w, 0, 0) := by
  unfold f110 at h
  refine zGo_s (pc' := 1) (st' := [.int (0 : Int32)]) dd110_0 rfl ?_
  refine zGo_s (pc' := 2) (st' := []) (lv' := [(2, .int (0 : Int32)), (0, .ref 1014), (1, .int x1)]) dd110_1 rfl ?_
  refine zGo_s (pc' := 3) (st' := [.int (0 : Int32)]) dd110_2 rfl ?_
  refine zGo_s (pc' := 4) (st' := []) (lv' := [(3, .int (0 : Int32)), (2, .int (0 : Int32)), (0, .ref 1014), (1, .int x1)]) dd110_3 rfl ?_
  exact zGo_lv (lv := [(0, .ref 1014), (1, .int x1), (2, .int (0 : Int32)), (3, .int (0 : Int32))]) ⟨by simp, by simp, by simp⟩ (f110_4_ok hd _ _ _ _ _ _ _ h)
/-! PH$Task.isWaiting()Z -/
theorem dd112_0 : decode cX8_isWaiting 0 = .ok (.aload_n 0, 1) := by decide +kernel
theorem dd112_1 : decode cX8_isWaiting 1 = .ok (.getfield 18, 3) := by decide +kernel
theorem dd112_4 : decode cX8_isWaiting 4 = .ok (.iconst 3, 1) := by decide +kernel
theorem dd112_5 : decode cX8_isWaiting 5 = .ok (.if_icmp .eq 11, 3) := by decide +kernel
theorem dd112_8 : decode cX8_isWaiting 8 = .ok (.aload_n 0, 1) := by decide +kernel
theorem dd112_9 : decode cX8_isWaiting 9 = .ok (.getfield 18, 3) := by decide +kernel
theorem dd112_12 : decode cX8_isWaiting 12 = .ok (.iconst 4, 1) := by decide +kernel
theorem dd112_13 : decode cX8_isWaiting 13 = .ok (.if_icmp .ne 7, 3) := by decide +kernel
theorem dd112_16 : decode cX8_isWaiting 16 = .ok (.iconst 1, 1) := by decide +kernel
theorem dd112_17 : decode cX8_isWaiting 17 = .ok (.goto 4, 3) := by decide +kernel
theorem dd112_20 : decode cX8_isWaiting 20 = .ok (.iconst 0, 1) := by decide +kernel
theorem dd112_21 : decode cX8_isWaiting 21 = .ok (.ireturn, 1) := by decide +kernel
def f112_16 (n : Nat) (s : zσ) : Option (Int32 × zσ) :=
    some ((1 : Int32), s)
set_option maxRecDepth 20000 in
theorem f112_16_ok {n d : Nat} {s : zσ} {v : Int32} {s2 : zσ} (hd : 0 ≤ d) (h : f112_16 n s = some (v, s2)) {w : zσ} {fz : Bool} {L : Nat} {xs : Nat → Int32} : zGo (zX fz L xs) d q_112 (16, [], [], zmk s w, 0, 0) (some (.int v), zmk s2 w, 0, 0) := by
  unfold f112_16 at h
  refine zGo_s (pc' := 17) (st' := [.int (1 : Int32)]) dd112_16 rfl ?_
  refine zGo_s (pc' := 21) (st' := [.int (1 : Int32)]) dd112_17 rfl ?_
  obtain ⟨rfl, rfl⟩ := oret h
  exact zGo_ret dd112_21 rfl rfl
def f112 (n : Nat) (x0 : Nat) (s : zσ) : Option (Int32 × zσ) :=
    if (s.1 x0 3) = (3 : Int32) then
    f112_16 n s
    else if (s.1 x0 3) = (4 : Int32) then
    f112_16 n s
    else some ((0 : Int32), s)
set_option maxRecDepth 20000 in
theorem f112_ok {n d : Nat} {x0 : Nat} {s : zσ} {v : Int32} {s2 : zσ} (hd : 0 ≤ d) (hx0 : zck 8 x0 = true) (h : f112 n x0 s = some (v, s2)) {w : zσ} {fz : Bool} {L : Nat} {xs : Nat → Int32} : zGo (zX fz L xs) d q_112 (0, [(0, .ref x0)], [], zmk s w, 0, 0) (some (.int v), zmk s2 w, 0, 0) := by
  unfold f112 at h
  refine zGo_s (pc' := 1) (st' := [.ref x0]) dd112_0 rfl ?_
  refine cGI dd112_1 rfl (ck8_s hx0).1 (ck8_s hx0).2 rfl ?_
  refine zGo_s (pc' := 5) (st' := [.int (3 : Int32), .int (s.1 x0 3)]) dd112_4 rfl ?_
  rcases oite h with ⟨hc, h⟩ | ⟨hc, h⟩
  · refine zIT dd112_5 rfl (kEqT hc) ?_
    exact zGo_lv (lv := []) ⟨by simp, by simp, by simp⟩ (f112_16_ok hd h)
  · refine zIF dd112_5 (kEqF hc) ?_
    refine zGo_s (pc' := 9) (st' := [.ref x0]) dd112_8 rfl ?_
    refine cGI dd112_9 rfl (ck8_s hx0).1 (ck8_s hx0).2 rfl ?_
    refine zGo_s (pc' := 13) (st' := [.int (4 : Int32), .int (s.1 x0 3)]) dd112_12 rfl ?_
    rcases oite h with ⟨hc, h⟩ | ⟨hc, h⟩
    · refine zIF dd112_13 (kNeF hc) ?_
      exact zGo_lv (lv := []) ⟨by simp, by simp, by simp⟩ (f112_16_ok hd h)
    · refine zIT dd112_13 rfl (kNeT hc) ?_
      refine zGo_s (pc' := 21) (st' := [.int (0 : Int32)]) dd112_20 rfl ?_
      obtain ⟨rfl, rfl⟩ := oret h
      exact zGo_ret dd112_21 rfl rfl
/-! PH$Machine.isAhead(LPH$Task;LPH$Task;)Z -/
theorem dd113_0 : decode cX3_isAhead 0 = .ok (.aload_n 0, 1) := by decide +kernel
theorem dd113_1 : decode cX3_isAhead 1 = .ok (.getfield 177, 3) := by decide +kernel
theorem dd113_4 : decode cX3_isAhead 4 = .ok (.aload_n 1, 1) := by decide +kernel
theorem dd113_5 : decode cX3_isAhead 5 = .ok (.getfield 177, 3) := by decide +kernel
theorem dd113_8 : decode cX3_isAhead 8 = .ok (.if_icmp .lt 25, 3) := by decide +kernel
theorem dd113_11 : decode cX3_isAhead 11 = .ok (.aload_n 0, 1) := by decide +kernel
theorem dd113_12 : decode cX3_isAhead 12 = .ok (.getfield 177, 3) := by decide +kernel
theorem dd113_15 : decode cX3_isAhead 15 = .ok (.aload_n 1, 1) := by decide +kernel
theorem dd113_16 : decode cX3_isAhead 16 = .ok (.getfield 177, 3) := by decide +kernel
theorem dd113_19 : decode cX3_isAhead 19 = .ok (.if_icmp .ne 18, 3) := by decide +kernel
theorem dd113_22 : decode cX3_isAhead 22 = .ok (.aload_n 0, 1) := by decide +kernel
theorem dd113_23 : decode cX3_isAhead 23 = .ok (.getfield 366, 3) := by decide +kernel
theorem dd113_26 : decode cX3_isAhead 26 = .ok (.aload_n 1, 1) := by decide +kernel
theorem dd113_27 : decode cX3_isAhead 27 = .ok (.getfield 366, 3) := by decide +kernel
theorem dd113_30 : decode cX3_isAhead 30 = .ok (.if_icmp .ge 7, 3) := by decide +kernel
theorem dd113_33 : decode cX3_isAhead 33 = .ok (.iconst 1, 1) := by decide +kernel
theorem dd113_34 : decode cX3_isAhead 34 = .ok (.goto 4, 3) := by decide +kernel
theorem dd113_37 : decode cX3_isAhead 37 = .ok (.iconst 0, 1) := by decide +kernel
theorem dd113_38 : decode cX3_isAhead 38 = .ok (.ireturn, 1) := by decide +kernel
def f113_33 (n : Nat) (s : zσ) : Option (Int32 × zσ) :=
    some ((1 : Int32), s)
set_option maxRecDepth 20000 in
theorem f113_33_ok {n d : Nat} {s : zσ} {v : Int32} {s2 : zσ} (hd : 0 ≤ d) (h : f113_33 n s = some (v, s2)) {w : zσ} {fz : Bool} {L : Nat} {xs : Nat → Int32} : zGo (zX fz L xs) d q_113 (33, [], [], zmk s w, 0, 0) (some (.int v), zmk s2 w, 0, 0) := by
  unfold f113_33 at h
  refine zGo_s (pc' := 34) (st' := [.int (1 : Int32)]) dd113_33 rfl ?_
  refine zGo_s (pc' := 38) (st' := [.int (1 : Int32)]) dd113_34 rfl ?_
  obtain ⟨rfl, rfl⟩ := oret h
  exact zGo_ret dd113_38 rfl rfl
def f113 (n : Nat) (x0 : Nat) (x1 : Nat) (s : zσ) : Option (Int32 × zσ) :=
    if (s.1 x0 4) < (s.1 x1 4) then
    f113_33 n s
    else if (s.1 x0 4) = (s.1 x1 4) then
    if (s.1 x0 12) < (s.1 x1 12) then
    f113_33 n s
    else some ((0 : Int32), s)
    else some ((0 : Int32), s)
set_option maxRecDepth 20000 in
theorem f113_ok {n d : Nat} {x0 : Nat} {x1 : Nat} {s : zσ} {v : Int32} {s2 : zσ} (hd : 0 ≤ d) (hx0 : zck 8 x0 = true) (hx1 : zck 8 x1 = true) (h : f113 n x0 x1 s = some (v, s2)) {w : zσ} {fz : Bool} {L : Nat} {xs : Nat → Int32} : zGo (zX fz L xs) d q_113 (0, [(0, .ref x0), (1, .ref x1)], [], zmk s w, 0, 0) (some (.int v), zmk s2 w, 0, 0) := by
  unfold f113 at h
  refine zGo_s (pc' := 1) (st' := [.ref x0]) dd113_0 rfl ?_
  refine cGI dd113_1 rfl (ck8_s hx0).1 (ck8_s hx0).2 rfl ?_
  refine zGo_s (pc' := 5) (st' := [.ref x1, .int (s.1 x0 4)]) dd113_4 rfl ?_
  refine cGI dd113_5 rfl (ck8_s hx1).1 (ck8_s hx1).2 rfl ?_
  rcases oite h with ⟨hc, h⟩ | ⟨hc, h⟩
  · refine zIT dd113_8 rfl (kLtT hc) ?_
    exact zGo_lv (lv := []) ⟨by simp, by simp, by simp⟩ (f113_33_ok hd h)
  · refine zIF dd113_8 (kLtF hc) ?_
    refine zGo_s (pc' := 12) (st' := [.ref x0]) dd113_11 rfl ?_
    refine cGI dd113_12 rfl (ck8_s hx0).1 (ck8_s hx0).2 rfl ?_
    refine zGo_s (pc' := 16) (st' := [.ref x1, .int (s.1 x0 4)]) dd113_15 rfl ?_
    refine cGI dd113_16 rfl (ck8_s hx1).1 (ck8_s hx1).2 rfl ?_
    rcases oite h with ⟨hc, h⟩ | ⟨hc, h⟩
    · refine zIF dd113_19 (kNeF hc) ?_
      refine zGo_s (pc' := 23) (st' := [.ref x0]) dd113_22 rfl ?_
      refine cGI dd113_23 rfl (ck8_s hx0).1 (ck8_s hx0).2 rfl ?_
      refine zGo_s (pc' := 27) (st' := [.ref x1, .int (s.1 x0 12)]) dd113_26 rfl ?_
      refine cGI dd113_27 rfl (ck8_s hx1).1 (ck8_s hx1).2 rfl ?_
      rcases oite h with ⟨hc, h⟩ | ⟨hc, h⟩
      · refine zIF dd113_30 (kGeF hc) ?_
        exact zGo_lv (lv := []) ⟨by simp, by simp, by simp⟩ (f113_33_ok hd h)
      · refine zIT dd113_30 rfl (kGeT hc) ?_
        refine zGo_s (pc' := 38) (st' := [.int (0 : Int32)]) dd113_37 rfl ?_
        obtain ⟨rfl, rfl⟩ := oret h
        exact zGo_ret dd113_38 rfl rfl
    · refine zIT dd113_19 rfl (kNeT hc) ?_
      refine zGo_s (pc' := 38) (st' := [.int (0 : Int32)]) dd113_37 rfl ?_
      obtain ⟨rfl, rfl⟩ := oret h
      exact zGo_ret dd113_38 rfl rfl
/-! PH$Machine.isAwaited(ILPH$Task;)Z -/
theorem dd111_0 : decode cX3_isAwaited 0 = .ok (.iconst 0, 1) := by decide +kernel
theorem dd111_1 : decode cX3_isAwaited 1 = .ok (.istore_n 3, 1) := by decide +kernel
theorem dd111_2 : decode cX3_isAwaited 2 = .ok (.iload_n 3, 1) := by decide +kernel
theorem dd111_3 : decode cX3_isAwaited 3 = .ok (.aload_n 0, 1) := by decide +kernel
theorem dd111_4 : decode cX3_isAwaited 4 = .ok (.getfield 71, 3) := by decide +kernel
theorem dd111_7 : decode cX3_isAwaited 7 = .ok (.if_icmp .ge 79, 3) := by decide +kernel
theorem dd111_10 : decode cX3_isAwaited 10 = .ok (.aload_n 0, 1) := by decide +kernel
theorem dd111_11 : decode cX3_isAwaited 11 = .ok (.getfield 11, 3) := by decide +kernel
theorem dd111_14 : decode cX3_isAwaited 14 = .ok (.iload_n 3, 1) := by decide +kernel
theorem dd111_15 : decode cX3_isAwaited 15 = .ok (.aaload, 1) := by decide +kernel
theorem dd111_16 : decode cX3_isAwaited 16 = .ok (.astore 4, 2) := by decide +kernel
theorem dd111_18 : decode cX3_isAwaited 18 = .ok (.aload 4, 2) := by decide +kernel
theorem dd111_20 : decode cX3_isAwaited 20 = .ok (.getfield 183, 3) := by decide +kernel
theorem dd111_23 : decode cX3_isAwaited 23 = .ok (.aload 4, 2) := by decide +kernel
theorem dd111_25 : decode cX3_isAwaited 25 = .ok (.getfield 186, 3) := by decide +kernel
theorem dd111_28 : decode cX3_isAwaited 28 = .ok (.iaload, 1) := by decide +kernel
theorem dd111_29 : decode cX3_isAwaited 29 = .ok (.istore 5, 2) := by decide +kernel
theorem dd111_31 : decode cX3_isAwaited 31 = .ok (.aload 4, 2) := by decide +kernel
theorem dd111_33 : decode cX3_isAwaited 33 = .ok (.invokevirtual 393, 3) := by decide +kernel
theorem dd111_36 : decode cX3_isAwaited 36 = .ok (.ifCond .eq 44, 3) := by decide +kernel
theorem dd111_39 : decode cX3_isAwaited 39 = .ok (.aload 4, 2) := by decide +kernel
theorem dd111_41 : decode cX3_isAwaited 41 = .ok (.aload_n 2, 1) := by decide +kernel
theorem dd111_42 : decode cX3_isAwaited 42 = .ok (.invokestatic 397, 3) := by decide +kernel
theorem dd111_45 : decode cX3_isAwaited 45 = .ok (.ifCond .eq 35, 3) := by decide +kernel
theorem dd111_48 : decode cX3_isAwaited 48 = .ok (.aload_n 0, 1) := by decide +kernel
theorem dd111_49 : decode cX3_isAwaited 49 = .ok (.getfield 59, 3) := by decide +kernel
theorem dd111_52 : decode cX3_isAwaited 52 = .ok (.getfield 256, 3) := by decide +kernel
theorem dd111_55 : decode cX3_isAwaited 55 = .ok (.iload 5, 2) := by decide +kernel
theorem dd111_57 : decode cX3_isAwaited 57 = .ok (.iaload, 1) := by decide +kernel
theorem dd111_58 : decode cX3_isAwaited 58 = .ok (.sipush 161, 3) := by decide +kernel
theorem dd111_61 : decode cX3_isAwaited 61 = .ok (.if_icmp .ne 19, 3) := by decide +kernel
theorem dd111_64 : decode cX3_isAwaited 64 = .ok (.aload_n 0, 1) := by decide +kernel
theorem dd111_65 : decode cX3_isAwaited 65 = .ok (.getfield 59, 3) := by decide +kernel
theorem dd111_68 : decode cX3_isAwaited 68 = .ok (.getfield 253, 3) := by decide +kernel
theorem dd111_71 : decode cX3_isAwaited 71 = .ok (.iload 5, 2) := by decide +kernel
theorem dd111_73 : decode cX3_isAwaited 73 = .ok (.iaload, 1) := by decide +kernel
theorem dd111_74 : decode cX3_isAwaited 74 = .ok (.iload_n 1, 1) := by decide +kernel
theorem dd111_75 : decode cX3_isAwaited 75 = .ok (.if_icmp .ne 5, 3) := by decide +kernel
theorem dd111_78 : decode cX3_isAwaited 78 = .ok (.iconst 1, 1) := by decide +kernel
theorem dd111_79 : decode cX3_isAwaited 79 = .ok (.ireturn, 1) := by decide +kernel
theorem dd111_80 : decode cX3_isAwaited 80 = .ok (.iinc 3 1, 3) := by decide +kernel
theorem dd111_83 : decode cX3_isAwaited 83 = .ok (.goto (-81), 3) := by decide +kernel
theorem dd111_86 : decode cX3_isAwaited 86 = .ok (.iconst 0, 1) := by decide +kernel
theorem dd111_87 : decode cX3_isAwaited 87 = .ok (.ireturn, 1) := by decide +kernel
def f111_80 (n : Nat) (r2 : Int32 → Nat → Int32 → zσ → Option (Int32 × zσ)) (x1 : Int32) (x2 : Nat) (x3 : Int32) (s : zσ) : Option (Int32 × zσ) :=
    r2 x1 x2 (x3 + (1 : Int32)) s
set_option maxRecDepth 20000 in
theorem f111_80_ok {n d : Nat} {r2 : Int32 → Nat → Int32 → zσ → Option (Int32 × zσ)} {x1 : Int32} {x2 : Nat} {x3 : Int32} {s : zσ} {v : Int32} {s2 : zσ} (hd : 1 ≤ d) (hr2 : ∀ (x1 : Int32) (x2 : Nat) (x3 : Int32) (s : zσ) (v : Int32) (s2 : zσ), zck 8 x2 = true → r2 x1 x2 x3 s = some (v, s2) → ∀ {w : zσ} {fz : Bool} {L : Nat} {xs : Nat → Int32}, zGo (zX fz L xs) d q_111 (2, [(0, .ref 1007), (1, .int x1), (2, .ref x2), (3, .int x3)], [], zmk s w, 0, 0) (some (.int v), zmk s2 w, 0, 0)) (hx2 : zck 8 x2 = true) (h : f111_80 n r2 x1 x2 x3 s = some (v, s2)) {w : zσ} {fz : Bool} {L : Nat} {xs : Nat → Int32} : zGo (zX fz L xs) d q_111 (80, [(0, .ref 1007), (1, .int x1), (2, .ref x2), (3, .int x3)], [], zmk s w, 0, 0) (some (.int v), zmk s2 w, 0, 0) := by
  obtain ⟨d, rfl⟩ : ∃ d0, d = d0 + 1 := ⟨d - 1, by omega⟩
  unfold f111_80 at h
  refine zGo_s (pc' := 83) (st' := []) (lv' := [(3, .int (x3 + (1 : Int32))), (0, .ref 1007), (1, .int x1), (2, .ref x2)]) dd111_80 rfl ?_
  refine zGo_s (pc' := 2) (st' := []) dd111_83 rfl ?_
  exact zGo_lv (lv := [(0, .ref 1007), (1, .int x1), (2, .ref x2), (3, .int (x3 + (1 : Int32)))]) ⟨by simp, by simp, by simp⟩ (hr2 _ _ _ _ _ _ hx2 h)
def f111_2 (n : Nat) : Nat → Int32 → Nat → Int32 → zσ → Option (Int32 × zσ)
  | 0, _, _, _, _ => none
  | j + 1, x1, x2, x3, s =>
    if x3 < (s.1 1007 12) then
    if zin? x3 8 = true then
    zrd 8 (s.2.2 1008 (nx x3)) fun a1 =>
    if zin? (s.1 a1 10) 9 = true then
    zlet ((s.1 (a1 + 1) (nx (s.1 a1 10)))) fun v2 =>
    yb1 (f112 n a1 s) fun v4 u3 =>
    if v4 = (0 : Int32) then
    f111_80 n (f111_2 n j) x1 x2 x3 u3
    else yb1 (f113 n a1 x2 u3) fun v6 u5 =>
    if v6 = (0 : Int32) then
    f111_80 n (f111_2 n j) x1 x2 x3 u5
    else zrd 6 (u5.2.2 1007 9) fun a7 =>
    if zin? v2 200 = true then
    if (u5.1 (a7 + 1) (nx v2)) = (161 : Int32) then
    zrd 6 (u5.2.2 1007 9) fun a8 =>
    if zin? v2 200 = true then
    if (u5.1 (a8 + 2) (nx v2)) = x1 then
    some ((1 : Int32), u5)
    else f111_80 n (f111_2 n j) x1 x2 x3 u5
    else none
    else f111_80 n (f111_2 n j) x1 x2 x3 u5
    else none
    else none
    else none
    else some ((0 : Int32), s)
set_option maxRecDepth 20000 in
theorem f111_2_ok {n d : Nat} (hd : 1 ≤ d) : ∀ (j : Nat) (x1 : Int32) (x2 : Nat) (x3 : Int32) (s : zσ) (v : Int32) (s2 : zσ), zck 8 x2 = true → f111_2 n j x1 x2 x3 s = some (v, s2) → ∀ {w : zσ} {fz : Bool} {L : Nat} {xs : Nat → Int32}, zGo (zX fz L xs) d q_111 (2, [(0, .ref 1007), (1, .int x1), (2, .ref x2), (3, .int x3)], [], zmk s w, 0, 0) (some (.int v), zmk s2 w, 0, 0) := by
  obtain ⟨d, rfl⟩ : ∃ d0, d = d0 + 1 := ⟨d - 1, by omega⟩
  intro j
  induction j with
  | zero => intro x1 x2 x3 s v s2 hx2 h; cases h
  | succ j ih =>
    intro x1 x2 x3 s v s2 hx2 h w fz L xs
    rw [f111_2] at h
    refine zGo_s (pc' := 3) (st' := [.int x3]) dd111_2 rfl ?_
    refine zGo_s (pc' := 4) (st' := [.ref 1007, .int x3]) dd111_3 rfl ?_
    refine cGI dd111_4 rfl rfl rfl rfl ?_
    rcases oite h with ⟨hc, h⟩ | ⟨hc, h⟩
    · refine zIF dd111_7 (kGeF hc) ?_
      refine zGo_s (pc' := 11) (st' := [.ref 1007]) dd111_10 rfl ?_
      refine cGF (e := 1008) dd111_11 rfl rfl rfl rfl rfl ?_
      refine zGo_s (pc' := 15) (st' := [.int x3, .ref 1008]) dd111_14 rfl ?_
      obtain ⟨hi, h⟩ := ochk h
      obtain ⟨a1, e_a1, c_a1, h⟩ := ordd h
      refine cAA dd111_15 rfl rfl (Or.inl rfl) hi e_a1 ?_
      refine zGo_s (pc' := 18) (st' := []) (lv' := [(4, .ref a1), (0, .ref 1007), (1, .int x1), (2, .ref x2), (3, .int x3)]) dd111_16 rfl ?_
      refine zGo_s (pc' := 20) (st' := [.ref a1]) dd111_18 rfl ?_
      refine cGF (e := (a1 + 1)) dd111_20 rfl (ck8_s c_a1).1 (ck8_s c_a1).2 rfl (cf8_1 c_a1).1 ?_
      refine zGo_s (pc' := 25) (st' := [.ref a1, .ref (a1 + 1)]) dd111_23 rfl ?_
      refine cGI dd111_25 rfl (ck8_s c_a1).1 (ck8_s c_a1).2 rfl ?_
      obtain ⟨hi, h⟩ := ochk h
      refine cIA dd111_28 (cf8_1 c_a1).2.1 (cf8_1 c_a1).2.2 hi ?_
      obtain ⟨v2, e_v2, h⟩ := olet h
      refine zGo_is1 e_v2 dd111_29 (x' := (31, [(5, .int v2), (4, .ref a1), (0, .ref 1007), (1, .int x1), (2, .ref x2), (3, .int x3)], [], _, _, _)) rfl ?_
      refine zGo_s (pc' := 33) (st' := [.ref a1]) dd111_31 rfl ?_
      obtain ⟨v4, u3, hq, h⟩ := obnd h
      refine zCV1 (As := []) (rest := []) (b := a1) (q' := q_112) dd111_33 rfl rfl (rcv_c (ck8_s c_a1).1 (ck8_s c_a1).2 (by decide)) rfl rfl rfl (f112_ok (d := d) (by omega) c_a1 hq) ?_
      rcases oite h with ⟨hc, h⟩ | ⟨hc, h⟩
      · refine zUT dd111_36 rfl (kEqT hc) ?_
        exact zGo_lv (lv := [(0, .ref 1007), (1, .int x1), (2, .ref x2), (3, .int x3)]) ⟨by simp, by simp, by simp⟩ (f111_80_ok hd ih hx2 h)
      · refine zUF dd111_36 (kEqF hc) ?_
        refine zGo_s (pc' := 41) (st' := [.ref a1]) dd111_39 rfl ?_
        refine zGo_s (pc' := 42) (st' := [.ref x2, .ref a1]) dd111_41 rfl ?_
        obtain ⟨v6, u5, hq, h⟩ := obnd h
        refine zCS1 (As := [.ref a1, .ref x2]) (rest := []) (q' := q_113) dd111_42 rfl rfl rfl rfl rfl (f113_ok (d := d) (by omega) c_a1 hx2 hq) ?_
        rcases oite h with ⟨hc, h⟩ | ⟨hc, h⟩
        · refine zUT dd111_45 rfl (kEqT hc) ?_
          exact zGo_lv (lv := [(0, .ref 1007), (1, .int x1), (2, .ref x2), (3, .int x3)]) ⟨by simp, by simp, by simp⟩ (f111_80_ok hd ih hx2 h)
        · refine zUF dd111_45 (kEqF hc) ?_
          refine zGo_s (pc' := 49) (st' := [.ref 1007]) dd111_48 rfl ?_
          obtain ⟨a7, e_a7, c_a7, h⟩ := ordd h
          refine cGR dd111_49 rfl rfl rfl rfl e_a7 ?_
          refine cGF (e := (a7 + 1)) dd111_52 rfl (ck6_s c_a7).1 (ck6_s c_a7).2 rfl (cf6_0 c_a7).1 ?_
          refine zGo_s (pc' := 57) (st' := [.int v2, .ref (a7 + 1)]) dd111_55 rfl ?_
          obtain ⟨hi, h⟩ := ochk h
          refine cIA dd111_57 (cf6_0 c_a7).2.1 (cf6_0 c_a7).2.2 hi ?_
          refine zGo_s (pc' := 61) (st' := [.int (161 : Int32), .int (u5.1 (a7 + 1) (nx v2))]) dd111_58 rfl ?_
          rcases oite h with ⟨hc, h⟩ | ⟨hc, h⟩
          · refine zIF dd111_61 (kNeF hc) ?_
            refine zGo_s (pc' := 65) (st' := [.ref 1007]) dd111_64 rfl ?_
            obtain ⟨a8, e_a8, c_a8, h⟩ := ordd h
            refine cGR dd111_65 rfl rfl rfl rfl e_a8 ?_
            refine cGF (e := (a8 + 2)) dd111_68 rfl (ck6_s c_a8).1 (ck6_s c_a8).2 rfl (cf6_1 c_a8).1 ?_
            refine zGo_s (pc' := 73) (st' := [.int v2, .ref (a8 + 2)]) dd111_71 rfl ?_
            obtain ⟨hi, h⟩ := ochk h
            refine cIA dd111_73 (cf6_1 c_a8).2.1 (cf6_1 c_a8).2.2 hi ?_
            refine zGo_s (pc' := 75) (st' := [.int x1, .int (u5.1 (a8 + 2) (nx v2))]) dd111_74 rfl ?_
            rcases oite h with ⟨hc, h⟩ | ⟨hc, h⟩
            · refine zIF dd111_75 (kNeF hc) ?_
              refine zGo_s (pc' := 79) (st' := [.int (1 : Int32)]) dd111_78 rfl ?_
              obtain ⟨rfl, rfl⟩ := oret h
              exact zGo_ret dd111_79 rfl rfl
            · refine zIT dd111_75 rfl (kNeT hc) ?_
              exact zGo_lv (lv := [(0, .ref 1007), (1, .int x1), (2, .ref x2), (3, .int x3)]) ⟨by simp, by simp, by simp⟩ (f111_80_ok hd ih hx2 h)
          · refine zIT dd111_61 rfl (kNeT hc) ?_
            exact zGo_lv (lv := [(0, .ref 1007), (1, .int x1), (2, .ref x2), (3, .int x3)]) ⟨by simp, by simp, by simp⟩ (f111_80_ok hd ih hx2 h)
    · refine zIT dd111_7 rfl (kGeT hc) ?_
      refine zGo_s (pc' := 87) (st' := [.int (0 : Int32)]) dd111_86 rfl ?_
      obtain ⟨rfl, rfl⟩ := oret h
      exact zGo_ret dd111_87 rfl rfl
def f111 (n : Nat) (x1 : Int32) (x2 : Nat) (s : zσ) : Option (Int32 × zσ) :=
    f111_2 n n x1 x2 (0 : Int32) s
set_option maxRecDepth 20000 in
theorem f111_ok {n d : Nat} {x1 : Int32} {x2 : Nat} {s : zσ} {v : Int32} {s2 : zσ} (hd : 1 ≤ d) (hx2 : zck 8 x2 = true) (h : f111 n x1 x2 s = some (v, s2)) {w : zσ} {fz : Bool} {L : Nat} {xs : Nat → Int32} : zGo (zX fz L xs) d q_111 (0, [(0, .ref 1007), (1, .int x1), (2, .ref x2)], [], zmk s w, 0, 0) (some (.int v), zmk s2 w, 0, 0) := by
  obtain ⟨d, rfl⟩ : ∃ d0, d = d0 + 1 := ⟨d - 1, by omega⟩
  unfold f111 at h
  refine zGo_s (pc' := 1) (st' := [.int (0 : Int32)]) dd111_0 rfl ?_
  refine zGo_s (pc' := 2) (st' := []) (lv' := [(3, .int (0 : Int32)), (0, .ref 1007), (1, .int x1), (2, .ref x2)]) dd111_1 rfl ?_
  exact zGo_lv (lv := [(0, .ref 1007), (1, .int x1), (2, .ref x2), (3, .int (0 : Int32))]) ⟨by simp, by simp, by simp⟩ (f111_2_ok hd _ _ _ _ _ _ _ hx2 h)
/-! PH$Machine.canHave(LPH$Task;I)Z -/
theorem dd107_0 : decode cX3_canHave 0 = .ok (.aload_n 0, 1) := by decide +kernel
theorem dd107_1 : decode cX3_canHave 1 = .ok (.getfield 59, 3) := by decide +kernel
theorem dd107_4 : decode cX3_canHave 4 = .ok (.getfield 253, 3) := by decide +kernel
theorem dd107_7 : decode cX3_canHave 7 = .ok (.iload_n 2, 1) := by decide +kernel
theorem dd107_8 : decode cX3_canHave 8 = .ok (.iaload, 1) := by decide +kernel
theorem dd107_9 : decode cX3_canHave 9 = .ok (.istore_n 3, 1) := by decide +kernel
theorem dd107_10 : decode cX3_canHave 10 = .ok (.aload_n 0, 1) := by decide +kernel
theorem dd107_11 : decode cX3_canHave 11 = .ok (.getfield 59, 3) := by decide +kernel
theorem dd107_14 : decode cX3_canHave 14 = .ok (.getfield 256, 3) := by decide +kernel
theorem dd107_17 : decode cX3_canHave 17 = .ok (.iload_n 2, 1) := by decide +kernel
theorem dd107_18 : decode cX3_canHave 18 = .ok (.iaload, 1) := by decide +kernel
theorem dd107_19 : decode cX3_canHave 19 = .ok (.lookupswitch 90 #[(159, 33), (161, 60), (165, 42)], 33) := by decide +kernel
theorem dd107_52 : decode cX3_canHave 52 = .ok (.aload_n 0, 1) := by decide +kernel
theorem dd107_53 : decode cX3_canHave 53 = .ok (.getfield 27, 3) := by decide +kernel
theorem dd107_56 : decode cX3_canHave 56 = .ok (.iload_n 3, 1) := by decide +kernel
theorem dd107_57 : decode cX3_canHave 57 = .ok (.invokevirtual 376, 3) := by decide +kernel
theorem dd107_60 : decode cX3_canHave 60 = .ok (.ireturn, 1) := by decide +kernel
theorem dd107_61 : decode cX3_canHave 61 = .ok (.aload_n 0, 1) := by decide +kernel
theorem dd107_62 : decode cX3_canHave 62 = .ok (.getfield 27, 3) := by decide +kernel
theorem dd107_65 : decode cX3_canHave 65 = .ok (.getfield 380, 3) := by decide +kernel
theorem dd107_68 : decode cX3_canHave 68 = .ok (.iload_n 3, 1) := by decide +kernel
theorem dd107_69 : decode cX3_canHave 69 = .ok (.iaload, 1) := by decide +kernel
theorem dd107_70 : decode cX3_canHave 70 = .ok (.ifCond .le 7, 3) := by decide +kernel
theorem dd107_73 : decode cX3_canHave 73 = .ok (.iconst 1, 1) := by decide +kernel
theorem dd107_74 : decode cX3_canHave 74 = .ok (.goto 4, 3) := by decide +kernel
theorem dd107_77 : decode cX3_canHave 77 = .ok (.iconst 0, 1) := by decide +kernel
theorem dd107_78 : decode cX3_canHave 78 = .ok (.ireturn, 1) := by decide +kernel
theorem dd107_79 : decode cX3_canHave 79 = .ok (.aload_n 0, 1) := by decide +kernel
theorem dd107_80 : decode cX3_canHave 80 = .ok (.getfield 27, 3) := by decide +kernel
theorem dd107_83 : decode cX3_canHave 83 = .ok (.getfield 383, 3) := by decide +kernel
theorem dd107_86 : decode cX3_canHave 86 = .ok (.iload_n 3, 1) := by decide +kernel
theorem dd107_87 : decode cX3_canHave 87 = .ok (.iaload, 1) := by decide +kernel
theorem dd107_88 : decode cX3_canHave 88 = .ok (.iconst (-1), 1) := by decide +kernel
theorem dd107_89 : decode cX3_canHave 89 = .ok (.if_icmp .ne 18, 3) := by decide +kernel
theorem dd107_92 : decode cX3_canHave 92 = .ok (.aload_n 0, 1) := by decide +kernel
theorem dd107_93 : decode cX3_canHave 93 = .ok (.getfield 27, 3) := by decide +kernel
theorem dd107_96 : decode cX3_canHave 96 = .ok (.iload_n 3, 1) := by decide +kernel
theorem dd107_97 : decode cX3_canHave 97 = .ok (.invokevirtual 386, 3) := by decide +kernel
theorem dd107_100 : decode cX3_canHave 100 = .ok (.ifCond .ne 7, 3) := by decide +kernel
theorem dd107_103 : decode cX3_canHave 103 = .ok (.iconst 1, 1) := by decide +kernel
theorem dd107_104 : decode cX3_canHave 104 = .ok (.goto 4, 3) := by decide +kernel
theorem dd107_107 : decode cX3_canHave 107 = .ok (.iconst 0, 1) := by decide +kernel
theorem dd107_108 : decode cX3_canHave 108 = .ok (.ireturn, 1) := by decide +kernel
theorem dd107_109 : decode cX3_canHave 109 = .ok (.aload_n 0, 1) := by decide +kernel
theorem dd107_110 : decode cX3_canHave 110 = .ok (.getfield 27, 3) := by decide +kernel
theorem dd107_113 : decode cX3_canHave 113 = .ok (.getfield 383, 3) := by decide +kernel
theorem dd107_116 : decode cX3_canHave 116 = .ok (.iload_n 3, 1) := by decide +kernel
theorem dd107_117 : decode cX3_canHave 117 = .ok (.iaload, 1) := by decide +kernel
theorem dd107_118 : decode cX3_canHave 118 = .ok (.iconst (-1), 1) := by decide +kernel
theorem dd107_119 : decode cX3_canHave 119 = .ok (.if_icmp .ne 16, 3) := by decide +kernel
theorem dd107_122 : decode cX3_canHave 122 = .ok (.aload_n 0, 1) := by decide +kernel
theorem dd107_123 : decode cX3_canHave 123 = .ok (.iload_n 3, 1) := by decide +kernel
theorem dd107_124 : decode cX3_canHave 124 = .ok (.aload_n 1, 1) := by decide +kernel
theorem dd107_125 : decode cX3_canHave 125 = .ok (.invokevirtual 389, 3) := by decide +kernel
theorem dd107_128 : decode cX3_canHave 128 = .ok (.ifCond .ne 7, 3) := by decide +kernel
theorem dd107_131 : decode cX3_canHave 131 = .ok (.iconst 1, 1) := by decide +kernel
theorem dd107_132 : decode cX3_canHave 132 = .ok (.goto 4, 3) := by decide +kernel
theorem dd107_135 : decode cX3_canHave 135 = .ok (.iconst 0, 1) := by decide +kernel
theorem dd107_136 : decode cX3_canHave 136 = .ok (.ireturn, 1) := by decide +kernel
def f107 (n : Nat) (x1 : Nat) (x2 : Int32) (s : zσ) : Option (Int32 × zσ) :=
    zrd 6 (s.2.2 1007 9) fun a1 =>
    if zin? x2 200 = true then
    zlet ((s.1 (a1 + 2) (nx x2))) fun v2 =>
    zrd 6 (s.2.2 1007 9) fun a3 =>
    if zin? x2 200 = true then
    if (s.1 (a3 + 1) (nx x2)) = (159 : Int32) then
    yb1 (f108 n v2 s) fun v5 u4 =>
    if v5 = 0 ∨ v5 = 1 then
    some (v5, u4)
    else none
    else if (s.1 (a3 + 1) (nx x2)) = (161 : Int32) then
    if zin? v2 4 = true then
    if (s.1 1016 (nx v2)) = (-1 : Int32) then
    yb1 (f110 n v2 s) fun v7 u6 =>
    if v7 = (0 : Int32) then
    some ((1 : Int32), u6)
    else some ((0 : Int32), u6)
    else some ((0 : Int32), s)
    else none
    else if (s.1 (a3 + 1) (nx x2)) = (165 : Int32) then
    if zin? v2 4 = true then
    if (0 : Int32) < (s.1 1019 (nx v2)) then
    some ((1 : Int32), s)
    else some ((0 : Int32), s)
    else none
    else if zin? v2 4 = true then
    if (s.1 1016 (nx v2)) = (-1 : Int32) then
    yb1 (f111 n v2 x1 s) fun v9 u8 =>
    if v9 = (0 : Int32) then
    some ((1 : Int32), u8)
    else some ((0 : Int32), u8)
    else some ((0 : Int32), s)
    else none
    else none
    else none
set_option maxRecDepth 20000 in
theorem f107_ok {n d : Nat} {x1 : Nat} {x2 : Int32} {s : zσ} {v : Int32} {s2 : zσ} (hd : 2 ≤ d) (hx1 : zck 8 x1 = true) (h : f107 n x1 x2 s = some (v, s2)) {w : zσ} {fz : Bool} {L : Nat} {xs : Nat → Int32} : zGo (zX fz L xs) d q_107 (0, [(0, .ref 1007), (1, .ref x1), (2, .int x2)], [], zmk s w, 0, 0) (some (.int v), zmk s2 w, 0, 0) := by
  obtain ⟨d, rfl⟩ : ∃ d0, d = d0 + 1 := ⟨d - 1, by omega⟩
  unfold f107 at h
  refine zGo_s (pc' := 1) (st' := [.ref 1007]) dd107_0 rfl ?_
  obtain ⟨a1, e_a1, c_a1, h⟩ := ordd h
  refine cGR dd107_1 rfl rfl rfl rfl e_a1 ?_
  refine cGF (e := (a1 + 2)) dd107_4 rfl (ck6_s c_a1).1 (ck6_s c_a1).2 rfl (cf6_1 c_a1).1 ?_
  refine zGo_s (pc' := 8) (st' := [.int x2, .ref (a1 + 2)]) dd107_7 rfl ?_
  obtain ⟨hi, h⟩ := ochk h
  refine cIA dd107_8 (cf6_1 c_a1).2.1 (cf6_1 c_a1).2.2 hi ?_
  obtain ⟨v2, e_v2, h⟩ := olet h
  refine zGo_is1 e_v2 dd107_9 (x' := (10, [(3, .int v2), (0, .ref 1007), (1, .ref x1), (2, .int x2)], [], _, _, _)) rfl ?_
  refine zGo_s (pc' := 11) (st' := [.ref 1007]) dd107_10 rfl ?_
  obtain ⟨a3, e_a3, c_a3, h⟩ := ordd h
  refine cGR dd107_11 rfl rfl rfl rfl e_a3 ?_
  refine cGF (e := (a3 + 1)) dd107_14 rfl (ck6_s c_a3).1 (ck6_s c_a3).2 rfl (cf6_0 c_a3).1 ?_
  refine zGo_s (pc' := 18) (st' := [.int x2, .ref (a3 + 1)]) dd107_17 rfl ?_
  obtain ⟨hi, h⟩ := ochk h
  refine cIA dd107_18 (cf6_0 c_a3).2.1 (cf6_0 c_a3).2.2 hi ?_
  rcases oite h with ⟨hc, h⟩ | ⟨hn0, h⟩
  · refine zGo_lw dd107_19 (o := 33) (by rw [hc]; decide +kernel) rfl ?_
    refine zGo_s (pc' := 53) (st' := [.ref 1007]) dd107_52 rfl ?_
    refine cGF (e := 1014) dd107_53 rfl rfl rfl rfl rfl ?_
    refine zGo_s (pc' := 57) (st' := [.int v2, .ref 1014]) dd107_56 rfl ?_
    obtain ⟨v5, u4, hq, h⟩ := obnd h
    refine zCV1 (As := [.int v2]) (rest := []) (b := 1014) (q' := q_108) dd107_57 rfl rfl (rcv_c rfl rfl (by decide)) rfl rfl rfl (f108_ok (d := d) (by omega)  hq) ?_
    obtain ⟨hb, h⟩ := ochk h
    obtain ⟨rfl, rfl⟩ := oret h
    exact zGo_ret dd107_60 rfl (if_pos hb)
  rcases oite h with ⟨hc, h⟩ | ⟨hn1, h⟩
  · refine zGo_lw dd107_19 (o := 60) (by rw [hc]; decide +kernel) rfl ?_
    refine zGo_s (pc' := 80) (st' := [.ref 1007]) dd107_79 rfl ?_
    refine cGF (e := 1014) dd107_80 rfl rfl rfl rfl rfl ?_
    refine cGF (e := 1016) dd107_83 rfl rfl rfl rfl rfl ?_
    refine zGo_s (pc' := 87) (st' := [.int v2, .ref 1016]) dd107_86 rfl ?_
    obtain ⟨hi, h⟩ := ochk h
    refine cIA dd107_87 rfl rfl hi ?_
    refine zGo_s (pc' := 89) (st' := [.int (-1 : Int32), .int (s.1 1016 (nx v2))]) dd107_88 rfl ?_
    rcases oite h with ⟨hc, h⟩ | ⟨hc, h⟩
    · refine zIF dd107_89 (kNeF hc) ?_
      refine zGo_s (pc' := 93) (st' := [.ref 1007]) dd107_92 rfl ?_
      refine cGF (e := 1014) dd107_93 rfl rfl rfl rfl rfl ?_
      refine zGo_s (pc' := 97) (st' := [.int v2, .ref 1014]) dd107_96 rfl ?_
      obtain ⟨v7, u6, hq, h⟩ := obnd h
      refine zCV1 (As := [.int v2]) (rest := []) (b := 1014) (q' := q_110) dd107_97 rfl rfl (rcv_c rfl rfl (by decide)) rfl rfl rfl (f110_ok (d := d) (by omega)  hq) ?_
      rcases oite h with ⟨hc, h⟩ | ⟨hc, h⟩
      · refine zUF dd107_100 (kNeF hc) ?_
        refine zGo_s (pc' := 104) (st' := [.int (1 : Int32)]) dd107_103 rfl ?_
        refine zGo_s (pc' := 108) (st' := [.int (1 : Int32)]) dd107_104 rfl ?_
        obtain ⟨rfl, rfl⟩ := oret h
        exact zGo_ret dd107_108 rfl rfl
      · refine zUT dd107_100 rfl (kNeT hc) ?_
        refine zGo_s (pc' := 108) (st' := [.int (0 : Int32)]) dd107_107 rfl ?_
        obtain ⟨rfl, rfl⟩ := oret h
        exact zGo_ret dd107_108 rfl rfl
    · refine zIT dd107_89 rfl (kNeT hc) ?_
      refine zGo_s (pc' := 108) (st' := [.int (0 : Int32)]) dd107_107 rfl ?_
      obtain ⟨rfl, rfl⟩ := oret h
      exact zGo_ret dd107_108 rfl rfl
  rcases oite h with ⟨hc, h⟩ | ⟨hn2, h⟩
  · refine zGo_lw dd107_19 (o := 42) (by rw [hc]; decide +kernel) rfl ?_
    refine zGo_s (pc' := 62) (st' := [.ref 1007]) dd107_61 rfl ?_
    refine cGF (e := 1014) dd107_62 rfl rfl rfl rfl rfl ?_
    refine cGF (e := 1019) dd107_65 rfl rfl rfl rfl rfl ?_
    refine zGo_s (pc' := 69) (st' := [.int v2, .ref 1019]) dd107_68 rfl ?_
    obtain ⟨hi, h⟩ := ochk h
    refine cIA dd107_69 rfl rfl hi ?_
    rcases oite h with ⟨hc, h⟩ | ⟨hc, h⟩
    · refine zUF dd107_70 (kLeF hc) ?_
      refine zGo_s (pc' := 74) (st' := [.int (1 : Int32)]) dd107_73 rfl ?_
      refine zGo_s (pc' := 78) (st' := [.int (1 : Int32)]) dd107_74 rfl ?_
      obtain ⟨rfl, rfl⟩ := oret h
      exact zGo_ret dd107_78 rfl rfl
    · refine zUT dd107_70 rfl (kLeT hc) ?_
      refine zGo_s (pc' := 78) (st' := [.int (0 : Int32)]) dd107_77 rfl ?_
      obtain ⟨rfl, rfl⟩ := oret h
      exact zGo_ret dd107_78 rfl rfl
  refine zGo_lw dd107_19 (o := 90) (zlo_d (by decide +kernel) fun p hp => ?_) rfl ?_
  · simp only [List.mem_cons, List.not_mem_nil, or_false] at hp
    rcases hp with rfl | rfl | rfl
    · exact hn0
    · exact hn1
    · exact hn2
  refine zGo_s (pc' := 110) (st' := [.ref 1007]) dd107_109 rfl ?_
  refine cGF (e := 1014) dd107_110 rfl rfl rfl rfl rfl ?_
  refine cGF (e := 1016) dd107_113 rfl rfl rfl rfl rfl ?_
  refine zGo_s (pc' := 117) (st' := [.int v2, .ref 1016]) dd107_116 rfl ?_
  obtain ⟨hi, h⟩ := ochk h
  refine cIA dd107_117 rfl rfl hi ?_
  refine zGo_s (pc' := 119) (st' := [.int (-1 : Int32), .int (s.1 1016 (nx v2))]) dd107_118 rfl ?_
  rcases oite h with ⟨hc, h⟩ | ⟨hc, h⟩
  · refine zIF dd107_119 (kNeF hc) ?_
    refine zGo_s (pc' := 123) (st' := [.ref 1007]) dd107_122 rfl ?_
    refine zGo_s (pc' := 124) (st' := [.int v2, .ref 1007]) dd107_123 rfl ?_
    refine zGo_s (pc' := 125) (st' := [.ref x1, .int v2, .ref 1007]) dd107_124 rfl ?_
    obtain ⟨v9, u8, hq, h⟩ := obnd h
    refine zCV1 (As := [.int v2, .ref x1]) (rest := []) (b := 1007) (q' := q_111) dd107_125 rfl rfl (rcv_c rfl rfl (by decide)) rfl rfl rfl (f111_ok (d := d) (by omega) hx1 hq) ?_
    rcases oite h with ⟨hc, h⟩ | ⟨hc, h⟩
    · refine zUF dd107_128 (kNeF hc) ?_
      refine zGo_s (pc' := 132) (st' := [.int (1 : Int32)]) dd107_131 rfl ?_
      refine zGo_s (pc' := 136) (st' := [.int (1 : Int32)]) dd107_132 rfl ?_
      obtain ⟨rfl, rfl⟩ := oret h
      exact zGo_ret dd107_136 rfl rfl
    · refine zUT dd107_128 rfl (kNeT hc) ?_
      refine zGo_s (pc' := 136) (st' := [.int (0 : Int32)]) dd107_135 rfl ?_
      obtain ⟨rfl, rfl⟩ := oret h
      exact zGo_ret dd107_136 rfl rfl
  · refine zIT dd107_119 rfl (kNeT hc) ?_
    refine zGo_s (pc' := 136) (st' := [.int (0 : Int32)]) dd107_135 rfl ?_
    obtain ⟨rfl, rfl⟩ := oret h
    exact zGo_ret dd107_136 rfl rfl
/-! PH$Gates.ask(I)V -/
theorem dd115_0 : decode cX2_ask 0 = .ok (.iconst 0, 1) := by decide +kernel
theorem dd115_1 : decode cX2_ask 1 = .ok (.istore_n 2, 1) := by decide +kernel
theorem dd115_2 : decode cX2_ask 2 = .ok (.iload_n 2, 1) := by decide +kernel
theorem dd115_3 : decode cX2_ask 3 = .ok (.iconst 4, 1) := by decide +kernel
theorem dd115_4 : decode cX2_ask 4 = .ok (.if_icmp .ge 23, 3) := by decide +kernel
theorem dd115_7 : decode cX2_ask 7 = .ok (.aload_n 0, 1) := by decide +kernel
theorem dd115_8 : decode cX2_ask 8 = .ok (.getfield 9, 3) := by decide +kernel
theorem dd115_11 : decode cX2_ask 11 = .ok (.iload_n 2, 1) := by decide +kernel
theorem dd115_12 : decode cX2_ask 12 = .ok (.dup2, 1) := by decide +kernel
theorem dd115_13 : decode cX2_ask 13 = .ok (.iaload, 1) := by decide +kernel
theorem dd115_14 : decode cX2_ask 14 = .ok (.iload_n 1, 1) := by decide +kernel
theorem dd115_15 : decode cX2_ask 15 = .ok (.iload_n 2, 1) := by decide +kernel
theorem dd115_16 : decode cX2_ask 16 = .ok (.invokestatic 45, 3) := by decide +kernel
theorem dd115_19 : decode cX2_ask 19 = .ok (.isub, 1) := by decide +kernel
theorem dd115_20 : decode cX2_ask 20 = .ok (.iastore, 1) := by decide +kernel
theorem dd115_21 : decode cX2_ask 21 = .ok (.iinc 2 1, 3) := by decide +kernel
theorem dd115_24 : decode cX2_ask 24 = .ok (.goto (-22), 3) := by decide +kernel
theorem dd115_27 : decode cX2_ask 27 = .ok (.return_, 1) := by decide +kernel
def f115_2 (n : Nat) : Nat → Int32 → Int32 → zσ → Option zσ
  | 0, _, _, _ => none
  | j + 1, x1, x2, s =>
    if x2 < (4 : Int32) then
    if zin? x2 4 = true then
    yb1 (f109 n x1 x2 s) fun v2 u1 =>
    if zin? x2 4 = true then
    zlet (sI u1 1015 (nx x2) ((s.1 1015 (nx x2)) - v2)) fun u3 =>
    f115_2 n j x1 (x2 + (1 : Int32)) u3
    else none
    else none
    else some s
set_option maxRecDepth 20000 in
theorem f115_2_ok {n d : Nat} (hd : 1 ≤ d) : ∀ (j : Nat) (x1 : Int32) (x2 : Int32) (s : zσ) (s2 : zσ), f115_2 n j x1 x2 s = some s2 → ∀ {w : zσ} {fz : Bool} {L : Nat} {xs : Nat → Int32}, zGo (zX fz L xs) d q_115 (2, [(0, .ref 1014), (1, .int x1), (2, .int x2)], [], zmk s w, 0, 0) (none, zmk s2 w, 0, 0) := by
  obtain ⟨d, rfl⟩ : ∃ d0, d = d0 + 1 := ⟨d - 1, by omega⟩
  intro j
  induction j with
  | zero => intro x1 x2 s s2 h; cases h
  | succ j ih =>
    intro x1 x2 s s2 h w fz L xs
    rw [f115_2] at h
    refine zGo_s (pc' := 3) (st' := [.int x2]) dd115_2 rfl ?_
    refine zGo_s (pc' := 4) (st' := [.int (4 : Int32), .int x2]) dd115_3 rfl ?_
    rcases oite h with ⟨hc, h⟩ | ⟨hc, h⟩
    · refine zIF dd115_4 (kGeF hc) ?_
      refine zGo_s (pc' := 8) (st' := [.ref 1014]) dd115_7 rfl ?_
      refine cGF (e := 1015) dd115_8 rfl rfl rfl rfl rfl ?_
      refine zGo_s (pc' := 12) (st' := [.int x2, .ref 1015]) dd115_11 rfl ?_
      refine zGo_s (pc' := 13) (st' := [.int x2, .ref 1015, .int x2, .ref 1015]) dd115_12 rfl ?_
      obtain ⟨hi, h⟩ := ochk h
      refine cIA dd115_13 rfl rfl hi ?_
      refine zGo_s (pc' := 15) (st' := [.int x1, .int (s.1 1015 (nx x2)), .int x2, .ref 1015]) dd115_14 rfl ?_
      refine zGo_s (pc' := 16) (st' := [.int x2, .int x1, .int (s.1 1015 (nx x2)), .int x2, .ref 1015]) dd115_15 rfl ?_
      obtain ⟨v2, u1, hq, h⟩ := obnd h
      refine zCS1 (As := [.int x1, .int x2]) (rest := [.int (s.1 1015 (nx x2)), .int x2, .ref 1015]) (q' := q_109) dd115_16 rfl rfl rfl rfl rfl (f109_ok (d := d) (by omega)  hq) ?_
      refine zGo_s (pc' := 20) (st' := [.int ((s.1 1015 (nx x2)) - v2), .int x2, .ref 1015]) dd115_19 rfl ?_
      obtain ⟨hi, h⟩ := ochk h
      obtain ⟨u3, e_u3, h⟩ := olet h
      refine cIS dd115_20 rfl rfl hi e_u3 ?_
      refine zGo_s (pc' := 24) (st' := []) (lv' := [(2, .int (x2 + (1 : Int32))), (0, .ref 1014), (1, .int x1)]) dd115_21 rfl ?_
      refine zGo_s (pc' := 2) (st' := []) dd115_24 rfl ?_
      exact zGo_lv (lv := [(0, .ref 1014), (1, .int x1), (2, .int (x2 + (1 : Int32)))]) ⟨by simp, by simp, by simp⟩ (ih _ _ _ _ h)
    · refine zIT dd115_4 rfl (kGeT hc) ?_
      obtain rfl := ore0 h
      exact zGo_ret dd115_27 rfl rfl
def f115 (n : Nat) (x1 : Int32) (s : zσ) : Option zσ :=
    f115_2 n n x1 (0 : Int32) s
set_option maxRecDepth 20000 in
theorem f115_ok {n d : Nat} {x1 : Int32} {s : zσ} {s2 : zσ} (hd : 1 ≤ d) (h : f115 n x1 s = some s2) {w : zσ} {fz : Bool} {L : Nat} {xs : Nat → Int32} : zGo (zX fz L xs) d q_115 (0, [(0, .ref 1014), (1, .int x1)], [], zmk s w, 0, 0) (none, zmk s2 w, 0, 0) := by
  obtain ⟨d, rfl⟩ : ∃ d0, d = d0 + 1 := ⟨d - 1, by omega⟩
  unfold f115 at h
  refine zGo_s (pc' := 1) (st' := [.int (0 : Int32)]) dd115_0 rfl ?_
  refine zGo_s (pc' := 2) (st' := []) (lv' := [(2, .int (0 : Int32)), (0, .ref 1014), (1, .int x1)]) dd115_1 rfl ?_
  exact zGo_lv (lv := [(0, .ref 1014), (1, .int x1), (2, .int (0 : Int32))]) ⟨by simp, by simp, by simp⟩ (f115_2_ok hd _ _ _ _ _ h)
/-! PH$Gates.takeEldest(I)I -/
theorem dd116_0 : decode cX2_takeEldest 0 = .ok (.iload_n 1, 1) := by decide +kernel
theorem dd116_1 : decode cX2_takeEldest 1 = .ok (.bipush 20, 2) := by decide +kernel
theorem dd116_3 : decode cX2_takeEldest 3 = .ok (.imul, 1) := by decide +kernel
theorem dd116_4 : decode cX2_takeEldest 4 = .ok (.istore_n 2, 1) := by decide +kernel
theorem dd116_5 : decode cX2_takeEldest 5 = .ok (.aload_n 0, 1) := by decide +kernel
theorem dd116_6 : decode cX2_takeEldest 6 = .ok (.getfield 21, 3) := by decide +kernel
theorem dd116_9 : decode cX2_takeEldest 9 = .ok (.iload_n 2, 1) := by decide +kernel
theorem dd116_10 : decode cX2_takeEldest 10 = .ok (.iaload, 1) := by decide +kernel
theorem dd116_11 : decode cX2_takeEldest 11 = .ok (.istore_n 3, 1) := by decide +kernel
theorem dd116_12 : decode cX2_takeEldest 12 = .ok (.aload_n 0, 1) := by decide +kernel
theorem dd116_13 : decode cX2_takeEldest 13 = .ok (.getfield 24, 3) := by decide +kernel
theorem dd116_16 : decode cX2_takeEldest 16 = .ok (.iload_n 1, 1) := by decide +kernel
theorem dd116_17 : decode cX2_takeEldest 17 = .ok (.iaload, 1) := by decide +kernel
theorem dd116_18 : decode cX2_takeEldest 18 = .ok (.ifCond .le 34, 3) := by decide +kernel
theorem dd116_21 : decode cX2_takeEldest 21 = .ok (.aload_n 0, 1) := by decide +kernel
theorem dd116_22 : decode cX2_takeEldest 22 = .ok (.getfield 24, 3) := by decide +kernel
theorem dd116_25 : decode cX2_takeEldest 25 = .ok (.iload_n 1, 1) := by decide +kernel
theorem dd116_26 : decode cX2_takeEldest 26 = .ok (.dup2, 1) := by decide +kernel
theorem dd116_27 : decode cX2_takeEldest 27 = .ok (.iaload, 1) := by decide +kernel
theorem dd116_28 : decode cX2_takeEldest 28 = .ok (.iconst 1, 1) := by decide +kernel
theorem dd116_29 : decode cX2_takeEldest 29 = .ok (.isub, 1) := by decide +kernel
theorem dd116_30 : decode cX2_takeEldest 30 = .ok (.iastore, 1) := by decide +kernel
theorem dd116_31 : decode cX2_takeEldest 31 = .ok (.aload_n 0, 1) := by decide +kernel
theorem dd116_32 : decode cX2_takeEldest 32 = .ok (.getfield 21, 3) := by decide +kernel
theorem dd116_35 : decode cX2_takeEldest 35 = .ok (.iload_n 2, 1) := by decide +kernel
theorem dd116_36 : decode cX2_takeEldest 36 = .ok (.iconst 1, 1) := by decide +kernel
theorem dd116_37 : decode cX2_takeEldest 37 = .ok (.iadd, 1) := by decide +kernel
theorem dd116_38 : decode cX2_takeEldest 38 = .ok (.aload_n 0, 1) := by decide +kernel
theorem dd116_39 : decode cX2_takeEldest 39 = .ok (.getfield 21, 3) := by decide +kernel
theorem dd116_42 : decode cX2_takeEldest 42 = .ok (.iload_n 2, 1) := by decide +kernel
theorem dd116_43 : decode cX2_takeEldest 43 = .ok (.aload_n 0, 1) := by decide +kernel
theorem dd116_44 : decode cX2_takeEldest 44 = .ok (.getfield 24, 3) := by decide +kernel
theorem dd116_47 : decode cX2_takeEldest 47 = .ok (.iload_n 1, 1) := by decide +kernel
theorem dd116_48 : decode cX2_takeEldest 48 = .ok (.iaload, 1) := by decide +kernel
theorem dd116_49 : decode cX2_takeEldest 49 = .ok (.invokestatic 33, 3) := by decide +kernel
theorem dd116_52 : decode cX2_takeEldest 52 = .ok (.iload_n 3, 1) := by decide +kernel
theorem dd116_53 : decode cX2_takeEldest 53 = .ok (.ireturn, 1) := by decide +kernel
def f116 (n : Nat) (x1 : Int32) (s : zσ) : Option (Int32 × zσ) :=
    zlet ((x1 * (20 : Int32))) fun v1 =>
    if zin? v1 80 = true then
    zlet ((s.1 1018 (nx v1))) fun v2 =>
    if zin? x1 4 = true then
    if (0 : Int32) < (s.1 1019 (nx x1)) then
    if zin? x1 4 = true then
    if zin? x1 4 = true then
    zlet (sI s 1019 (nx x1) ((s.1 1019 (nx x1)) - (1 : Int32))) fun u3 =>
    if zin? x1 4 = true then
    if zcpo (v1 + (1 : Int32)) v1 (u3.1 1019 (nx x1)) 80 80 = true then
    zlet (sC u3 1018 (nx (v1 + (1 : Int32))) 1018 (nx v1) (nx (u3.1 1019 (nx x1)))) fun u4 =>
    some (v2, u4)
    else none
    else none
    else none
    else none
    else some (v2, s)
    else none
    else none
set_option maxRecDepth 20000 in
theorem f116_ok {n d : Nat} {x1 : Int32} {s : zσ} {v : Int32} {s2 : zσ} (hd : 1 ≤ d) (h : f116 n x1 s = some (v, s2)) {w : zσ} {fz : Bool} {L : Nat} {xs : Nat → Int32} : zGo (zX fz L xs) d q_116 (0, [(0, .ref 1014), (1, .int x1)], [], zmk s w, 0, 0) (some (.int v), zmk s2 w, 0, 0) := by
  obtain ⟨d, rfl⟩ : ∃ d0, d = d0 + 1 := ⟨d - 1, by omega⟩
  unfold f116 at h
  refine zGo_s (pc' := 1) (st' := [.int x1]) dd116_0 rfl ?_
  refine zGo_s (pc' := 3) (st' := [.int (20 : Int32), .int x1]) dd116_1 rfl ?_
  refine zGo_s (pc' := 4) (st' := [.int (x1 * (20 : Int32))]) dd116_3 rfl ?_
  obtain ⟨v1, e_v1, h⟩ := olet h
  refine zGo_is1 e_v1 dd116_4 (x' := (5, [(2, .int v1), (0, .ref 1014), (1, .int x1)], [], _, _, _)) rfl ?_
  refine zGo_s (pc' := 6) (st' := [.ref 1014]) dd116_5 rfl ?_
  refine cGF (e := 1018) dd116_6 rfl rfl rfl rfl rfl ?_
  refine zGo_s (pc' := 10) (st' := [.int v1, .ref 1018]) dd116_9 rfl ?_
  obtain ⟨hi, h⟩ := ochk h
  refine cIA dd116_10 rfl rfl hi ?_
  obtain ⟨v2, e_v2, h⟩ := olet h
  refine zGo_is1 e_v2 dd116_11 (x' := (12, [(3, .int v2), (2, .int v1), (0, .ref 1014), (1, .int x1)], [], _, _, _)) rfl ?_
  refine zGo_s (pc' := 13) (st' := [.ref 1014]) dd116_12 rfl ?_
  refine cGF (e := 1019) dd116_13 rfl rfl rfl rfl rfl ?_
  refine zGo_s (pc' := 17) (st' := [.int x1, .ref 1019]) dd116_16 rfl ?_
  obtain ⟨hi, h⟩ := ochk h
  refine cIA dd116_17 rfl rfl hi ?_
  rcases oite h with ⟨hc, h⟩ | ⟨hc, h⟩
  · refine zUF dd116_18 (kLeF hc) ?_
    refine zGo_s (pc' := 22) (st' := [.ref 1014]) dd116_21 rfl ?_
    refine cGF (e := 1019) dd116_22 rfl rfl rfl rfl rfl ?_
    refine zGo_s (pc' := 26) (st' := [.int x1, .ref 1019]) dd116_25 rfl ?_
    refine zGo_s (pc' := 27) (st' := [.int x1, .ref 1019, .int x1, .ref 1019]) dd116_26 rfl ?_
    obtain ⟨hi, h⟩ := ochk h
    refine cIA dd116_27 rfl rfl hi ?_
    refine zGo_s (pc' := 29) (st' := [.int (1 : Int32), .int (s.1 1019 (nx x1)), .int x1, .ref 1019]) dd116_28 rfl ?_
    refine zGo_s (pc' := 30) (st' := [.int ((s.1 1019 (nx x1)) - (1 : Int32)), .int x1, .ref 1019]) dd116_29 rfl ?_
    obtain ⟨hi, h⟩ := ochk h
    obtain ⟨u3, e_u3, h⟩ := olet h
    refine cIS dd116_30 rfl rfl hi e_u3 ?_
    refine zGo_s (pc' := 32) (st' := [.ref 1014]) dd116_31 rfl ?_
    refine cGF (e := 1018) dd116_32 rfl rfl rfl rfl rfl ?_
    refine zGo_s (pc' := 36) (st' := [.int v1, .ref 1018]) dd116_35 rfl ?_
    refine zGo_s (pc' := 37) (st' := [.int (1 : Int32), .int v1, .ref 1018]) dd116_36 rfl ?_
    refine zGo_s (pc' := 38) (st' := [.int (v1 + (1 : Int32)), .ref 1018]) dd116_37 rfl ?_
    refine zGo_s (pc' := 39) (st' := [.ref 1014, .int (v1 + (1 : Int32)), .ref 1018]) dd116_38 rfl ?_
    refine cGF (e := 1018) dd116_39 rfl rfl rfl rfl rfl ?_
    refine zGo_s (pc' := 43) (st' := [.int v1, .ref 1018, .int (v1 + (1 : Int32)), .ref 1018]) dd116_42 rfl ?_
    refine zGo_s (pc' := 44) (st' := [.ref 1014, .int v1, .ref 1018, .int (v1 + (1 : Int32)), .ref 1018]) dd116_43 rfl ?_
    refine cGF (e := 1019) dd116_44 rfl rfl rfl rfl rfl ?_
    refine zGo_s (pc' := 48) (st' := [.int x1, .ref 1019, .int v1, .ref 1018, .int (v1 + (1 : Int32)), .ref 1018]) dd116_47 rfl ?_
    obtain ⟨hi, h⟩ := ochk h
    refine cIA dd116_48 rfl rfl hi ?_
    obtain ⟨hi, h⟩ := ochk h
    obtain ⟨u4, e_u4, h⟩ := olet h
    refine cCP dd116_49 rfl rfl rfl rfl rfl rfl hi e_u4 ?_
    refine zGo_s (pc' := 53) (st' := [.int v2]) dd116_52 rfl ?_
    obtain ⟨rfl, rfl⟩ := oret h
    exact zGo_ret dd116_53 rfl rfl
  · refine zUT dd116_18 rfl (kLeT hc) ?_
    refine zGo_s (pc' := 53) (st' := [.int v2]) dd116_52 rfl ?_
    obtain ⟨rfl, rfl⟩ := oret h
    exact zGo_ret dd116_53 rfl rfl
/-! PH$Machine.have(LPH$Task;I)V -/
theorem dd114_0 : decode cX3_have 0 = .ok (.aload_n 0, 1) := by decide +kernel
theorem dd114_1 : decode cX3_have 1 = .ok (.getfield 59, 3) := by decide +kernel
theorem dd114_4 : decode cX3_have 4 = .ok (.getfield 253, 3) := by decide +kernel
theorem dd114_7 : decode cX3_have 7 = .ok (.iload_n 2, 1) := by decide +kernel
theorem dd114_8 : decode cX3_have 8 = .ok (.iaload, 1) := by decide +kernel
theorem dd114_9 : decode cX3_have 9 = .ok (.istore_n 3, 1) := by decide +kernel
theorem dd114_10 : decode cX3_have 10 = .ok (.aload_n 0, 1) := by decide +kernel
theorem dd114_11 : decode cX3_have 11 = .ok (.getfield 59, 3) := by decide +kernel
theorem dd114_14 : decode cX3_have 14 = .ok (.getfield 256, 3) := by decide +kernel
theorem dd114_17 : decode cX3_have 17 = .ok (.iload_n 2, 1) := by decide +kernel
theorem dd114_18 : decode cX3_have 18 = .ok (.iaload, 1) := by decide +kernel
theorem dd114_19 : decode cX3_have 19 = .ok (.lookupswitch 88 #[(159, 33), (161, 72), (165, 44)], 33) := by decide +kernel
theorem dd114_52 : decode cX3_have 52 = .ok (.aload_n 0, 1) := by decide +kernel
theorem dd114_53 : decode cX3_have 53 = .ok (.getfield 27, 3) := by decide +kernel
theorem dd114_56 : decode cX3_have 56 = .ok (.iload_n 3, 1) := by decide +kernel
theorem dd114_57 : decode cX3_have 57 = .ok (.invokevirtual 401, 3) := by decide +kernel
theorem dd114_60 : decode cX3_have 60 = .ok (.goto 68, 3) := by decide +kernel
theorem dd114_63 : decode cX3_have 63 = .ok (.aload_n 0, 1) := by decide +kernel
theorem dd114_64 : decode cX3_have 64 = .ok (.getfield 20, 3) := by decide +kernel
theorem dd114_67 : decode cX3_have 67 = .ok (.getfield 228, 3) := by decide +kernel
theorem dd114_70 : decode cX3_have 70 = .ok (.aload_n 0, 1) := by decide +kernel
theorem dd114_71 : decode cX3_have 71 = .ok (.getfield 59, 3) := by decide +kernel
theorem dd114_74 : decode cX3_have 74 = .ok (.getfield 272, 3) := by decide +kernel
theorem dd114_77 : decode cX3_have 77 = .ok (.iload_n 2, 1) := by decide +kernel
theorem dd114_78 : decode cX3_have 78 = .ok (.iaload, 1) := by decide +kernel
theorem dd114_79 : decode cX3_have 79 = .ok (.aload_n 0, 1) := by decide +kernel
theorem dd114_80 : decode cX3_have 80 = .ok (.getfield 27, 3) := by decide +kernel
theorem dd114_83 : decode cX3_have 83 = .ok (.iload_n 3, 1) := by decide +kernel
theorem dd114_84 : decode cX3_have 84 = .ok (.invokevirtual 404, 3) := by decide +kernel
theorem dd114_87 : decode cX3_have 87 = .ok (.iastore, 1) := by decide +kernel
theorem dd114_88 : decode cX3_have 88 = .ok (.goto 40, 3) := by decide +kernel
theorem dd114_91 : decode cX3_have 91 = .ok (.aload_n 0, 1) := by decide +kernel
theorem dd114_92 : decode cX3_have 92 = .ok (.getfield 27, 3) := by decide +kernel
theorem dd114_95 : decode cX3_have 95 = .ok (.getfield 383, 3) := by decide +kernel
theorem dd114_98 : decode cX3_have 98 = .ok (.iload_n 3, 1) := by decide +kernel
theorem dd114_99 : decode cX3_have 99 = .ok (.aload_n 1, 1) := by decide +kernel
theorem dd114_100 : decode cX3_have 100 = .ok (.getfield 290, 3) := by decide +kernel
theorem dd114_103 : decode cX3_have 103 = .ok (.iastore, 1) := by decide +kernel
theorem dd114_104 : decode cX3_have 104 = .ok (.goto 24, 3) := by decide +kernel
theorem dd114_107 : decode cX3_have 107 = .ok (.aload_n 0, 1) := by decide +kernel
theorem dd114_108 : decode cX3_have 108 = .ok (.getfield 27, 3) := by decide +kernel
theorem dd114_111 : decode cX3_have 111 = .ok (.getfield 407, 3) := by decide +kernel
theorem dd114_114 : decode cX3_have 114 = .ok (.iload_n 3, 1) := by decide +kernel
theorem dd114_115 : decode cX3_have 115 = .ok (.bipush 8, 2) := by decide +kernel
theorem dd114_117 : decode cX3_have 117 = .ok (.imul, 1) := by decide +kernel
theorem dd114_118 : decode cX3_have 118 = .ok (.aload_n 1, 1) := by decide +kernel
theorem dd114_119 : decode cX3_have 119 = .ok (.getfield 290, 3) := by decide +kernel
theorem dd114_122 : decode cX3_have 122 = .ok (.iadd, 1) := by decide +kernel
theorem dd114_123 : decode cX3_have 123 = .ok (.dup2, 1) := by decide +kernel
theorem dd114_124 : decode cX3_have 124 = .ok (.iaload, 1) := by decide +kernel
theorem dd114_125 : decode cX3_have 125 = .ok (.iconst 1, 1) := by decide +kernel
theorem dd114_126 : decode cX3_have 126 = .ok (.iadd, 1) := by decide +kernel
theorem dd114_127 : decode cX3_have 127 = .ok (.iastore, 1) := by decide +kernel
theorem dd114_128 : decode cX3_have 128 = .ok (.return_, 1) := by decide +kernel
def f114 (n : Nat) (x1 : Nat) (x2 : Int32) (s : zσ) : Option zσ :=
    zrd 6 (s.2.2 1007 9) fun a1 =>
    if zin? x2 200 = true then
    zlet ((s.1 (a1 + 2) (nx x2))) fun v2 =>
    zrd 6 (s.2.2 1007 9) fun a3 =>
    if zin? x2 200 = true then
    if (s.1 (a3 + 1) (nx x2)) = (159 : Int32) then
    yb0 (f115 n v2 s) fun u4 =>
    some u4
    else if (s.1 (a3 + 1) (nx x2)) = (161 : Int32) then
    if zin? v2 4 = true then
    zlet (sI s 1016 (nx v2) (s.1 x1 0)) fun u5 =>
    some u5
    else none
    else if (s.1 (a3 + 1) (nx x2)) = (165 : Int32) then
    zrd 6 (s.2.2 1007 9) fun a6 =>
    if zin? x2 200 = true then
    yb1 (f116 n v2 s) fun v8 u7 =>
    if zin? (s.1 (a6 + 3) (nx x2)) 8 = true then
    zlet (sI u7 1010 (nx (s.1 (a6 + 3) (nx x2))) v8) fun u9 =>
    some u9
    else none
    else none
    else if zin? ((v2 * (8 : Int32)) + (s.1 x1 0)) 32 = true then
    if zin? ((v2 * (8 : Int32)) + (s.1 x1 0)) 32 = true then
    zlet (sI s 1017 (nx ((v2 * (8 : Int32)) + (s.1 x1 0))) ((s.1 1017 (nx ((v2 * (8 : Int32)) + (s.1 x1 0)))) + (1 : Int32))) fun u10 =>
    some u10
    else none
    else none
    else none
    else none
set_option maxRecDepth 20000 in
theorem f114_ok {n d : Nat} {x1 : Nat} {x2 : Int32} {s : zσ} {s2 : zσ} (hd : 2 ≤ d) (hx1 : zck 8 x1 = true) (h : f114 n x1 x2 s = some s2) {w : zσ} {fz : Bool} {L : Nat} {xs : Nat → Int32} : zGo (zX fz L xs) d q_114 (0, [(0, .ref 1007), (1, .ref x1), (2, .int x2)], [], zmk s w, 0, 0) (none, zmk s2 w, 0, 0) := by
  obtain ⟨d, rfl⟩ : ∃ d0, d = d0 + 1 := ⟨d - 1, by omega⟩
  unfold f114 at h
  refine zGo_s (pc' := 1) (st' := [.ref 1007]) dd114_0 rfl ?_
  obtain ⟨a1, e_a1, c_a1, h⟩ := ordd h
  refine cGR dd114_1 rfl rfl rfl rfl e_a1 ?_
  refine cGF (e := (a1 + 2)) dd114_4 rfl (ck6_s c_a1).1 (ck6_s c_a1).2 rfl (cf6_1 c_a1).1 ?_
  refine zGo_s (pc' := 8) (st' := [.int x2, .ref (a1 + 2)]) dd114_7 rfl ?_
  obtain ⟨hi, h⟩ := ochk h
  refine cIA dd114_8 (cf6_1 c_a1).2.1 (cf6_1 c_a1).2.2 hi ?_
  obtain ⟨v2, e_v2, h⟩ := olet h
  refine zGo_is1 e_v2 dd114_9 (x' := (10, [(3, .int v2), (0, .ref 1007), (1, .ref x1), (2, .int x2)], [], _, _, _)) rfl ?_
  refine zGo_s (pc' := 11) (st' := [.ref 1007]) dd114_10 rfl ?_
  obtain ⟨a3, e_a3, c_a3, h⟩ := ordd h
  refine cGR dd114_11 rfl rfl rfl rfl e_a3 ?_
  refine cGF (e := (a3 + 1)) dd114_14 rfl (ck6_s c_a3).1 (ck6_s c_a3).2 rfl (cf6_0 c_a3).1 ?_
  refine zGo_s (pc' := 18) (st' := [.int x2, .ref (a3 + 1)]) dd114_17 rfl ?_
  obtain ⟨hi, h⟩ := ochk h
  refine cIA dd114_18 (cf6_0 c_a3).2.1 (cf6_0 c_a3).2.2 hi ?_
  rcases oite h with ⟨hc, h⟩ | ⟨hn0, h⟩
  · refine zGo_lw dd114_19 (o := 33) (by rw [hc]; decide +kernel) rfl ?_
    refine zGo_s (pc' := 53) (st' := [.ref 1007]) dd114_52 rfl ?_
    refine cGF (e := 1014) dd114_53 rfl rfl rfl rfl rfl ?_
    refine zGo_s (pc' := 57) (st' := [.int v2, .ref 1014]) dd114_56 rfl ?_
    obtain ⟨u4, hq, h⟩ := obn0 h
    refine zCV0 (As := [.int v2]) (rest := []) (b := 1014) (q' := q_115) dd114_57 rfl rfl (rcv_c rfl rfl (by decide)) rfl rfl rfl (f115_ok (d := d) (by omega)  hq) ?_
    refine zGo_s (pc' := 128) (st' := []) dd114_60 rfl ?_
    obtain rfl := ore0 h
    exact zGo_ret dd114_128 rfl rfl
  rcases oite h with ⟨hc, h⟩ | ⟨hn1, h⟩
  · refine zGo_lw dd114_19 (o := 72) (by rw [hc]; decide +kernel) rfl ?_
    refine zGo_s (pc' := 92) (st' := [.ref 1007]) dd114_91 rfl ?_
    refine cGF (e := 1014) dd114_92 rfl rfl rfl rfl rfl ?_
    refine cGF (e := 1016) dd114_95 rfl rfl rfl rfl rfl ?_
    refine zGo_s (pc' := 99) (st' := [.int v2, .ref 1016]) dd114_98 rfl ?_
    refine zGo_s (pc' := 100) (st' := [.ref x1, .int v2, .ref 1016]) dd114_99 rfl ?_
    refine cGI dd114_100 rfl (ck8_s hx1).1 (ck8_s hx1).2 rfl ?_
    obtain ⟨hi, h⟩ := ochk h
    obtain ⟨u5, e_u5, h⟩ := olet h
    refine cIS dd114_103 rfl rfl hi e_u5 ?_
    refine zGo_s (pc' := 128) (st' := []) dd114_104 rfl ?_
    obtain rfl := ore0 h
    exact zGo_ret dd114_128 rfl rfl
  rcases oite h with ⟨hc, h⟩ | ⟨hn2, h⟩
  · refine zGo_lw dd114_19 (o := 44) (by rw [hc]; decide +kernel) rfl ?_
    refine zGo_s (pc' := 64) (st' := [.ref 1007]) dd114_63 rfl ?_
    refine cGF (e := 1009) dd114_64 rfl rfl rfl rfl rfl ?_
    refine cGF (e := 1010) dd114_67 rfl rfl rfl rfl rfl ?_
    refine zGo_s (pc' := 71) (st' := [.ref 1007, .ref 1010]) dd114_70 rfl ?_
    obtain ⟨a6, e_a6, c_a6, h⟩ := ordd h
    refine cGR dd114_71 rfl rfl rfl rfl e_a6 ?_
    refine cGF (e := (a6 + 3)) dd114_74 rfl (ck6_s c_a6).1 (ck6_s c_a6).2 rfl (cf6_2 c_a6).1 ?_
    refine zGo_s (pc' := 78) (st' := [.int x2, .ref (a6 + 3), .ref 1010]) dd114_77 rfl ?_
    obtain ⟨hi, h⟩ := ochk h
    refine cIA dd114_78 (cf6_2 c_a6).2.1 (cf6_2 c_a6).2.2 hi ?_
    refine zGo_s (pc' := 80) (st' := [.ref 1007, .int (s.1 (a6 + 3) (nx x2)), .ref 1010]) dd114_79 rfl ?_
    refine cGF (e := 1014) dd114_80 rfl rfl rfl rfl rfl ?_
    refine zGo_s (pc' := 84) (st' := [.int v2, .ref 1014, .int (s.1 (a6 + 3) (nx x2)), .ref 1010]) dd114_83 rfl ?_
    obtain ⟨v8, u7, hq, h⟩ := obnd h
    refine zCV1 (As := [.int v2]) (rest := [.int (s.1 (a6 + 3) (nx x2)), .ref 1010]) (b := 1014) (q' := q_116) dd114_84 rfl rfl (rcv_c rfl rfl (by decide)) rfl rfl rfl (f116_ok (d := d) (by omega)  hq) ?_
    obtain ⟨hi, h⟩ := ochk h
    obtain ⟨u9, e_u9, h⟩ := olet h
    refine cIS dd114_87 rfl rfl hi e_u9 ?_
    refine zGo_s (pc' := 128) (st' := []) dd114_88 rfl ?_
    obtain rfl := ore0 h
    exact zGo_ret dd114_128 rfl rfl
  refine zGo_lw dd114_19 (o := 88) (zlo_d (by decide +kernel) fun p hp => ?_) rfl ?_
  · simp only [List.mem_cons, List.not_mem_nil, or_false] at hp
    rcases hp with rfl | rfl | rfl
    · exact hn0
    · exact hn1
    · exact hn2
  refine zGo_s (pc' := 108) (st' := [.ref 1007]) dd114_107 rfl ?_
  refine cGF (e := 1014) dd114_108 rfl rfl rfl rfl rfl ?_
  refine cGF (e := 1017) dd114_111 rfl rfl rfl rfl rfl ?_
  refine zGo_s (pc' := 115) (st' := [.int v2, .ref 1017]) dd114_114 rfl ?_
  refine zGo_s (pc' := 117) (st' := [.int (8 : Int32), .int v2, .ref 1017]) dd114_115 rfl ?_
  refine zGo_s (pc' := 118) (st' := [.int (v2 * (8 : Int32)), .ref 1017]) dd114_117 rfl ?_
  refine zGo_s (pc' := 119) (st' := [.ref x1, .int (v2 * (8 : Int32)), .ref 1017]) dd114_118 rfl ?_
  refine cGI dd114_119 rfl (ck8_s hx1).1 (ck8_s hx1).2 rfl ?_
  refine zGo_s (pc' := 123) (st' := [.int ((v2 * (8 : Int32)) + (s.1 x1 0)), .ref 1017]) dd114_122 rfl ?_
  refine zGo_s (pc' := 124) (st' := [.int ((v2 * (8 : Int32)) + (s.1 x1 0)), .ref 1017, .int ((v2 * (8 : Int32)) + (s.1 x1 0)), .ref 1017]) dd114_123 rfl ?_
  obtain ⟨hi, h⟩ := ochk h
  refine cIA dd114_124 rfl rfl hi ?_
  refine zGo_s (pc' := 126) (st' := [.int (1 : Int32), .int (s.1 1017 (nx ((v2 * (8 : Int32)) + (s.1 x1 0)))), .int ((v2 * (8 : Int32)) + (s.1 x1 0)), .ref 1017]) dd114_125 rfl ?_
  refine zGo_s (pc' := 127) (st' := [.int ((s.1 1017 (nx ((v2 * (8 : Int32)) + (s.1 x1 0)))) + (1 : Int32)), .int ((v2 * (8 : Int32)) + (s.1 x1 0)), .ref 1017]) dd114_126 rfl ?_
  obtain ⟨hi, h⟩ := ochk h
  obtain ⟨u10, e_u10, h⟩ := olet h
  refine cIS dd114_127 rfl rfl hi e_u10 ?_
  obtain rfl := ore0 h
  exact zGo_ret dd114_128 rfl rfl
/-! PH$Machine.request(LPH$Task;I)I -/
theorem dd106_0 : decode cX3_request 0 = .ok (.aload_n 1, 1) := by decide +kernel
theorem dd106_1 : decode cX3_request 1 = .ok (.aload_n 0, 1) := by decide +kernel
theorem dd106_2 : decode cX3_request 2 = .ok (.dup, 1) := by decide +kernel
theorem dd106_3 : decode cX3_request 3 = .ok (.getfield 81, 3) := by decide +kernel
theorem dd106_6 : decode cX3_request 6 = .ok (.iconst 1, 1) := by decide +kernel
theorem dd106_7 : decode cX3_request 7 = .ok (.iadd, 1) := by decide +kernel
theorem dd106_8 : decode cX3_request 8 = .ok (.dup_x1, 1) := by decide +kernel
theorem dd106_9 : decode cX3_request 9 = .ok (.putfield 81, 3) := by decide +kernel
theorem dd106_12 : decode cX3_request 12 = .ok (.putfield 366, 3) := by decide +kernel
theorem dd106_15 : decode cX3_request 15 = .ok (.aload_n 0, 1) := by decide +kernel
theorem dd106_16 : decode cX3_request 16 = .ok (.aload_n 1, 1) := by decide +kernel
theorem dd106_17 : decode cX3_request 17 = .ok (.iload_n 2, 1) := by decide +kernel
theorem dd106_18 : decode cX3_request 18 = .ok (.invokevirtual 369, 3) := by decide +kernel
theorem dd106_21 : decode cX3_request 21 = .ok (.ifCond .ne 10, 3) := by decide +kernel
theorem dd106_24 : decode cX3_request 24 = .ok (.aload_n 1, 1) := by decide +kernel
theorem dd106_25 : decode cX3_request 25 = .ok (.iconst 3, 1) := by decide +kernel
theorem dd106_26 : decode cX3_request 26 = .ok (.putfield 123, 3) := by decide +kernel
theorem dd106_29 : decode cX3_request 29 = .ok (.iconst (-1), 1) := by decide +kernel
theorem dd106_30 : decode cX3_request 30 = .ok (.ireturn, 1) := by decide +kernel
theorem dd106_31 : decode cX3_request 31 = .ok (.aload_n 0, 1) := by decide +kernel
theorem dd106_32 : decode cX3_request 32 = .ok (.aload_n 1, 1) := by decide +kernel
theorem dd106_33 : decode cX3_request 33 = .ok (.iload_n 2, 1) := by decide +kernel
theorem dd106_34 : decode cX3_request 34 = .ok (.invokevirtual 373, 3) := by decide +kernel
theorem dd106_37 : decode cX3_request 37 = .ok (.iconst 0, 1) := by decide +kernel
theorem dd106_38 : decode cX3_request 38 = .ok (.ireturn, 1) := by decide +kernel
def f106 (n : Nat) (x1 : Nat) (x2 : Int32) (s : zσ) : Option (Int32 × zσ) :=
    zlet (sI s 1007 15 ((s.1 1007 15) + (1 : Int32))) fun u1 =>
    zlet (sI u1 x1 12 ((s.1 1007 15) + (1 : Int32))) fun u2 =>
    yb1 (f107 n x1 x2 u2) fun v4 u3 =>
    if v4 = (0 : Int32) then
    zlet (sI u3 x1 3 (3 : Int32)) fun u6 =>
    some ((-1 : Int32), u6)
    else yb0 (f114 n x1 x2 u3) fun u5 =>
    some ((0 : Int32), u5)
set_option maxRecDepth 20000 in
theorem f106_ok {n d : Nat} {x1 : Nat} {x2 : Int32} {s : zσ} {v : Int32} {s2 : zσ} (hd : 3 ≤ d) (hx1 : zck 8 x1 = true) (h : f106 n x1 x2 s = some (v, s2)) {w : zσ} {fz : Bool} {L : Nat} {xs : Nat → Int32} : zGo (zX fz L xs) d q_106 (0, [(0, .ref 1007), (1, .ref x1), (2, .int x2)], [], zmk s w, 0, 0) (some (.int v), zmk s2 w, 0, 0) := by
  obtain ⟨d, rfl⟩ : ∃ d0, d = d0 + 1 := ⟨d - 1, by omega⟩
  unfold f106 at h
  refine zGo_s (pc' := 1) (st' := [.ref x1]) dd106_0 rfl ?_
  refine zGo_s (pc' := 2) (st' := [.ref 1007, .ref x1]) dd106_1 rfl ?_
  refine zGo_s (pc' := 3) (st' := [.ref 1007, .ref 1007, .ref x1]) dd106_2 rfl ?_
  refine cGI dd106_3 rfl rfl rfl rfl ?_
  refine zGo_s (pc' := 7) (st' := [.int (1 : Int32), .int (s.1 1007 15), .ref 1007, .ref x1]) dd106_6 rfl ?_
  refine zGo_s (pc' := 8) (st' := [.int ((s.1 1007 15) + (1 : Int32)), .ref 1007, .ref x1]) dd106_7 rfl ?_
  refine zGo_s (pc' := 9) (st' := [.int ((s.1 1007 15) + (1 : Int32)), .ref 1007, .int ((s.1 1007 15) + (1 : Int32)), .ref x1]) dd106_8 rfl ?_
  obtain ⟨u1, e_u1, h⟩ := olet h
  refine cPI dd106_9 rfl rfl rfl rfl rfl rfl e_u1 ?_
  obtain ⟨u2, e_u2, h⟩ := olet h
  refine cPI dd106_12 rfl (ck8_s hx1).1 (ck8_s hx1).2 rfl rfl rfl e_u2 ?_
  refine zGo_s (pc' := 16) (st' := [.ref 1007]) dd106_15 rfl ?_
  refine zGo_s (pc' := 17) (st' := [.ref x1, .ref 1007]) dd106_16 rfl ?_
  refine zGo_s (pc' := 18) (st' := [.int x2, .ref x1, .ref 1007]) dd106_17 rfl ?_
  obtain ⟨v4, u3, hq, h⟩ := obnd h
  refine zCV1 (As := [.ref x1, .int x2]) (rest := []) (b := 1007) (q' := q_107) dd106_18 rfl rfl (rcv_c rfl rfl (by decide)) rfl rfl rfl (f107_ok (d := d) (by omega) hx1 hq) ?_
  rcases oite h with ⟨hc, h⟩ | ⟨hc, h⟩
  · refine zUF dd106_21 (kNeF hc) ?_
    refine zGo_s (pc' := 25) (st' := [.ref x1]) dd106_24 rfl ?_
    refine zGo_s (pc' := 26) (st' := [.int (3 : Int32), .ref x1]) dd106_25 rfl ?_
    obtain ⟨u6, e_u6, h⟩ := olet h
    refine cPI dd106_26 rfl (ck8_s hx1).1 (ck8_s hx1).2 rfl rfl rfl e_u6 ?_
    refine zGo_s (pc' := 30) (st' := [.int (-1 : Int32)]) dd106_29 rfl ?_
    obtain ⟨rfl, rfl⟩ := oret h
    exact zGo_ret dd106_30 rfl rfl
  · refine zUT dd106_21 rfl (kNeT hc) ?_
    refine zGo_s (pc' := 32) (st' := [.ref 1007]) dd106_31 rfl ?_
    refine zGo_s (pc' := 33) (st' := [.ref x1, .ref 1007]) dd106_32 rfl ?_
    refine zGo_s (pc' := 34) (st' := [.int x2, .ref x1, .ref 1007]) dd106_33 rfl ?_
    obtain ⟨u5, hq, h⟩ := obn0 h
    refine zCV0 (As := [.ref x1, .int x2]) (rest := []) (b := 1007) (q' := q_114) dd106_34 rfl rfl (rcv_c rfl rfl (by decide)) rfl rfl rfl (f114_ok (d := d) (by omega) hx1 hq) ?_
    refine zGo_s (pc' := 38) (st' := [.int (0 : Int32)]) dd106_37 rfl ?_
    obtain ⟨rfl, rfl⟩ := oret h
    exact zGo_ret dd106_38 rfl rfl
/-! PH$Gates.give(I)I -/
theorem dd117_0 : decode cX2_give 0 = .ok (.iconst 0, 1) := by decide +kernel
theorem dd117_1 : decode cX2_give 1 = .ok (.istore_n 2, 1) := by decide +kernel
theorem dd117_2 : decode cX2_give 2 = .ok (.iload_n 2, 1) := by decide +kernel
theorem dd117_3 : decode cX2_give 3 = .ok (.iconst 4, 1) := by decide +kernel
theorem dd117_4 : decode cX2_give 4 = .ok (.if_icmp .ge 29, 3) := by decide +kernel
theorem dd117_7 : decode cX2_give 7 = .ok (.aload_n 0, 1) := by decide +kernel
theorem dd117_8 : decode cX2_give 8 = .ok (.getfield 9, 3) := by decide +kernel
theorem dd117_11 : decode cX2_give 11 = .ok (.iload_n 2, 1) := by decide +kernel
theorem dd117_12 : decode cX2_give 12 = .ok (.iaload, 1) := by decide +kernel
theorem dd117_13 : decode cX2_give 13 = .ok (.iload_n 1, 1) := by decide +kernel
theorem dd117_14 : decode cX2_give 14 = .ok (.iload_n 2, 1) := by decide +kernel
theorem dd117_15 : decode cX2_give 15 = .ok (.invokestatic 45, 3) := by decide +kernel
theorem dd117_18 : decode cX2_give 18 = .ok (.iadd, 1) := by decide +kernel
theorem dd117_19 : decode cX2_give 19 = .ok (.bipush 9, 2) := by decide +kernel
theorem dd117_21 : decode cX2_give 21 = .ok (.if_icmp .le 6, 3) := by decide +kernel
theorem dd117_24 : decode cX2_give 24 = .ok (.bipush 8, 2) := by decide +kernel
theorem dd117_26 : decode cX2_give 26 = .ok (.ireturn, 1) := by decide +kernel
theorem dd117_27 : decode cX2_give 27 = .ok (.iinc 2 1, 3) := by decide +kernel
theorem dd117_30 : decode cX2_give 30 = .ok (.goto (-28), 3) := by decide +kernel
theorem dd117_33 : decode cX2_give 33 = .ok (.iconst 0, 1) := by decide +kernel
theorem dd117_34 : decode cX2_give 34 = .ok (.istore_n 2, 1) := by decide +kernel
theorem dd117_35 : decode cX2_give 35 = .ok (.iload_n 2, 1) := by decide +kernel
theorem dd117_36 : decode cX2_give 36 = .ok (.iconst 4, 1) := by decide +kernel
theorem dd117_37 : decode cX2_give 37 = .ok (.if_icmp .ge 23, 3) := by decide +kernel
theorem dd117_40 : decode cX2_give 40 = .ok (.aload_n 0, 1) := by decide +kernel
theorem dd117_41 : decode cX2_give 41 = .ok (.getfield 9, 3) := by decide +kernel
theorem dd117_44 : decode cX2_give 44 = .ok (.iload_n 2, 1) := by decide +kernel
theorem dd117_45 : decode cX2_give 45 = .ok (.dup2, 1) := by decide +kernel
theorem dd117_46 : decode cX2_give 46 = .ok (.iaload, 1) := by decide +kernel
theorem dd117_47 : decode cX2_give 47 = .ok (.iload_n 1, 1) := by decide +kernel
theorem dd117_48 : decode cX2_give 48 = .ok (.iload_n 2, 1) := by decide +kernel
theorem dd117_49 : decode cX2_give 49 = .ok (.invokestatic 45, 3) := by decide +kernel
theorem dd117_52 : decode cX2_give 52 = .ok (.iadd, 1) := by decide +kernel
theorem dd117_53 : decode cX2_give 53 = .ok (.iastore, 1) := by decide +kernel
theorem dd117_54 : decode cX2_give 54 = .ok (.iinc 2 1, 3) := by decide +kernel
theorem dd117_57 : decode cX2_give 57 = .ok (.goto (-22), 3) := by decide +kernel
theorem dd117_60 : decode cX2_give 60 = .ok (.iconst 0, 1) := by decide +kernel
theorem dd117_61 : decode cX2_give 61 = .ok (.ireturn, 1) := by decide +kernel
def f117_35 (n : Nat) : Nat → Int32 → Int32 → zσ → Option (Int32 × zσ)
  | 0, _, _, _ => none
  | j + 1, x1, x2, s =>
    if x2 < (4 : Int32) then
    if zin? x2 4 = true then
    yb1 (f109 n x1 x2 s) fun v2 u1 =>
    if zin? x2 4 = true then
    zlet (sI u1 1015 (nx x2) ((s.1 1015 (nx x2)) + v2)) fun u3 =>
    f117_35 n j x1 (x2 + (1 : Int32)) u3
    else none
    else none
    else some ((0 : Int32), s)
set_option maxRecDepth 20000 in
theorem f117_35_ok {n d : Nat} (hd : 1 ≤ d) : ∀ (j : Nat) (x1 : Int32) (x2 : Int32) (s : zσ) (v : Int32) (s2 : zσ), f117_35 n j x1 x2 s = some (v, s2) → ∀ {w : zσ} {fz : Bool} {L : Nat} {xs : Nat → Int32}, zGo (zX fz L xs) d q_117 (35, [(0, .ref 1014), (1, .int x1), (2, .int x2)], [], zmk s w, 0, 0) (some (.int v), zmk s2 w, 0, 0) := by
  obtain ⟨d, rfl⟩ : ∃ d0, d = d0 + 1 := ⟨d - 1, by omega⟩
  intro j
  induction j with
  | zero => intro x1 x2 s v s2 h; cases h
  | succ j ih =>
    intro x1 x2 s v s2 h w fz L xs
    rw [f117_35] at h
    refine zGo_s (pc' := 36) (st' := [.int x2]) dd117_35 rfl ?_
    refine zGo_s (pc' := 37) (st' := [.int (4 : Int32), .int x2]) dd117_36 rfl ?_
    rcases oite h with ⟨hc, h⟩ | ⟨hc, h⟩
    · refine zIF dd117_37 (kGeF hc) ?_
      refine zGo_s (pc' := 41) (st' := [.ref 1014]) dd117_40 rfl ?_
      refine cGF (e := 1015) dd117_41 rfl rfl rfl rfl rfl ?_
      refine zGo_s (pc' := 45) (st' := [.int x2, .ref 1015]) dd117_44 rfl ?_
      refine zGo_s (pc' := 46) (st' := [.int x2, .ref 1015, .int x2, .ref 1015]) dd117_45 rfl ?_
      obtain ⟨hi, h⟩ := ochk h
      refine cIA dd117_46 rfl rfl hi ?_
      refine zGo_s (pc' := 48) (st' := [.int x1, .int (s.1 1015 (nx x2)), .int x2, .ref 1015]) dd117_47 rfl ?_
      refine zGo_s (pc' := 49) (st' := [.int x2, .int x1, .int (s.1 1015 (nx x2)), .int x2, .ref 1015]) dd117_48 rfl ?_
      obtain ⟨v2, u1, hq, h⟩ := obnd h
      refine zCS1 (As := [.int x1, .int x2]) (rest := [.int (s.1 1015 (nx x2)), .int x2, .ref 1015]) (q' := q_109) dd117_49 rfl rfl rfl rfl rfl (f109_ok (d := d) (by omega)  hq) ?_
      refine zGo_s (pc' := 53) (st' := [.int ((s.1 1015 (nx x2)) + v2), .int x2, .ref 1015]) dd117_52 rfl ?_
      obtain ⟨hi, h⟩ := ochk h
      obtain ⟨u3, e_u3, h⟩ := olet h
      refine cIS dd117_53 rfl rfl hi e_u3 ?_
      refine zGo_s (pc' := 57) (st' := []) (lv' := [(2, .int (x2 + (1 : Int32))), (0, .ref 1014), (1, .int x1)]) dd117_54 rfl ?_
      refine zGo_s (pc' := 35) (st' := []) dd117_57 rfl ?_
      exact zGo_lv (lv := [(0, .ref 1014), (1, .int x1), (2, .int (x2 + (1 : Int32)))]) ⟨by simp, by simp, by simp⟩ (ih _ _ _ _ _ h)
    · refine zIT dd117_37 rfl (kGeT hc) ?_
      refine zGo_s (pc' := 61) (st' := [.int (0 : Int32)]) dd117_60 rfl ?_
      obtain ⟨rfl, rfl⟩ := oret h
      exact zGo_ret dd117_61 rfl rfl
def f117_2 (n : Nat) : Nat → Int32 → Int32 → zσ → Option (Int32 × zσ)
  | 0, _, _, _ => none
  | j + 1, x1, x2, s =>
    if x2 < (4 : Int32) then
    if zin? x2 4 = true then
    yb1 (f109 n x1 x2 s) fun v2 u1 =>
    if (9 : Int32) < ((s.1 1015 (nx x2)) + v2) then
    some ((8 : Int32), u1)
    else f117_2 n j x1 (x2 + (1 : Int32)) u1
    else none
    else f117_35 n n x1 (0 : Int32) s
set_option maxRecDepth 20000 in
theorem f117_2_ok {n d : Nat} (hd : 1 ≤ d) : ∀ (j : Nat) (x1 : Int32) (x2 : Int32) (s : zσ) (v : Int32) (s2 : zσ), f117_2 n j x1 x2 s = some (v, s2) → ∀ {w : zσ} {fz : Bool} {L : Nat} {xs : Nat → Int32}, zGo (zX fz L xs) d q_117 (2, [(0, .ref 1014), (1, .int x1), (2, .int x2)], [], zmk s w, 0, 0) (some (.int v), zmk s2 w, 0, 0) := by
  obtain ⟨d, rfl⟩ : ∃ d0, d = d0 + 1 := ⟨d - 1, by omega⟩
  intro j
  induction j with
  | zero => intro x1 x2 s v s2 h; cases h
  | succ j ih =>
    intro x1 x2 s v s2 h w fz L xs
    rw [f117_2] at h
    refine zGo_s (pc' := 3) (st' := [.int x2]) dd117_2 rfl ?_
    refine zGo_s (pc' := 4) (st' := [.int (4 : Int32), .int x2]) dd117_3 rfl ?_
    rcases oite h with ⟨hc, h⟩ | ⟨hc, h⟩
    · refine zIF dd117_4 (kGeF hc) ?_
      refine zGo_s (pc' := 8) (st' := [.ref 1014]) dd117_7 rfl ?_
      refine cGF (e := 1015) dd117_8 rfl rfl rfl rfl rfl ?_
      refine zGo_s (pc' := 12) (st' := [.int x2, .ref 1015]) dd117_11 rfl ?_
      obtain ⟨hi, h⟩ := ochk h
      refine cIA dd117_12 rfl rfl hi ?_
      refine zGo_s (pc' := 14) (st' := [.int x1, .int (s.1 1015 (nx x2))]) dd117_13 rfl ?_
      refine zGo_s (pc' := 15) (st' := [.int x2, .int x1, .int (s.1 1015 (nx x2))]) dd117_14 rfl ?_
      obtain ⟨v2, u1, hq, h⟩ := obnd h
      refine zCS1 (As := [.int x1, .int x2]) (rest := [.int (s.1 1015 (nx x2))]) (q' := q_109) dd117_15 rfl rfl rfl rfl rfl (f109_ok (d := d) (by omega)  hq) ?_
      refine zGo_s (pc' := 19) (st' := [.int ((s.1 1015 (nx x2)) + v2)]) dd117_18 rfl ?_
      refine zGo_s (pc' := 21) (st' := [.int (9 : Int32), .int ((s.1 1015 (nx x2)) + v2)]) dd117_19 rfl ?_
      rcases oite h with ⟨hc, h⟩ | ⟨hc, h⟩
      · refine zIF dd117_21 (kLeF hc) ?_
        refine zGo_s (pc' := 26) (st' := [.int (8 : Int32)]) dd117_24 rfl ?_
        obtain ⟨rfl, rfl⟩ := oret h
        exact zGo_ret dd117_26 rfl rfl
      · refine zIT dd117_21 rfl (kLeT hc) ?_
        refine zGo_s (pc' := 30) (st' := []) (lv' := [(2, .int (x2 + (1 : Int32))), (0, .ref 1014), (1, .int x1)]) dd117_27 rfl ?_
        refine zGo_s (pc' := 2) (st' := []) dd117_30 rfl ?_
        exact zGo_lv (lv := [(0, .ref 1014), (1, .int x1), (2, .int (x2 + (1 : Int32)))]) ⟨by simp, by simp, by simp⟩ (ih _ _ _ _ _ h)
    · refine zIT dd117_4 rfl (kGeT hc) ?_
      refine zGo_s (pc' := 34) (st' := [.int (0 : Int32)]) dd117_33 rfl ?_
      refine zGo_s (pc' := 35) (st' := []) (lv' := [(2, .int (0 : Int32)), (0, .ref 1014), (1, .int x1)]) dd117_34 rfl ?_
      exact zGo_lv (lv := [(0, .ref 1014), (1, .int x1), (2, .int (0 : Int32))]) ⟨by simp, by simp, by simp⟩ (f117_35_ok hd _ _ _ _ _ _ h)
def f117 (n : Nat) (x1 : Int32) (s : zσ) : Option (Int32 × zσ) :=
    f117_2 n n x1 (0 : Int32) s
set_option maxRecDepth 20000 in
theorem f117_ok {n d : Nat} {x1 : Int32} {s : zσ} {v : Int32} {s2 : zσ} (hd : 1 ≤ d) (h : f117 n x1 s = some (v, s2)) {w : zσ} {fz : Bool} {L : Nat} {xs : Nat → Int32} : zGo (zX fz L xs) d q_117 (0, [(0, .ref 1014), (1, .int x1)], [], zmk s w, 0, 0) (some (.int v), zmk s2 w, 0, 0) := by
  obtain ⟨d, rfl⟩ : ∃ d0, d = d0 + 1 := ⟨d - 1, by omega⟩
  unfold f117 at h
  refine zGo_s (pc' := 1) (st' := [.int (0 : Int32)]) dd117_0 rfl ?_
  refine zGo_s (pc' := 2) (st' := []) (lv' := [(2, .int (0 : Int32)), (0, .ref 1014), (1, .int x1)]) dd117_1 rfl ?_
  exact zGo_lv (lv := [(0, .ref 1014), (1, .int x1), (2, .int (0 : Int32))]) ⟨by simp, by simp, by simp⟩ (f117_2_ok hd _ _ _ _ _ _ h)
/-! PH$Gates.free(II)I -/
theorem dd118_0 : decode cX2_free 0 = .ok (.aload_n 0, 1) := by decide +kernel
theorem dd118_1 : decode cX2_free 1 = .ok (.getfield 15, 3) := by decide +kernel
theorem dd118_4 : decode cX2_free 4 = .ok (.iload_n 1, 1) := by decide +kernel
theorem dd118_5 : decode cX2_free 5 = .ok (.iaload, 1) := by decide +kernel
theorem dd118_6 : decode cX2_free 6 = .ok (.iload_n 2, 1) := by decide +kernel
theorem dd118_7 : decode cX2_free 7 = .ok (.if_icmp .eq 6, 3) := by decide +kernel
theorem dd118_10 : decode cX2_free 10 = .ok (.bipush 8, 2) := by decide +kernel
theorem dd118_12 : decode cX2_free 12 = .ok (.ireturn, 1) := by decide +kernel
theorem dd118_13 : decode cX2_free 13 = .ok (.aload_n 0, 1) := by decide +kernel
theorem dd118_14 : decode cX2_free 14 = .ok (.getfield 15, 3) := by decide +kernel
theorem dd118_17 : decode cX2_free 17 = .ok (.iload_n 1, 1) := by decide +kernel
theorem dd118_18 : decode cX2_free 18 = .ok (.iconst (-1), 1) := by decide +kernel
theorem dd118_19 : decode cX2_free 19 = .ok (.iastore, 1) := by decide +kernel
theorem dd118_20 : decode cX2_free 20 = .ok (.iconst 0, 1) := by decide +kernel
theorem dd118_21 : decode cX2_free 21 = .ok (.ireturn, 1) := by decide +kernel
def f118 (n : Nat) (x1 : Int32) (x2 : Int32) (s : zσ) : Option (Int32 × zσ) :=
    if zin? x1 4 = true then
    if (s.1 1016 (nx x1)) = x2 then
    if zin? x1 4 = true then
    zlet (sI s 1016 (nx x1) (-1 : Int32)) fun u1 =>
    some ((0 : Int32), u1)
    else none
    else some ((8 : Int32), s)
    else none
set_option maxRecDepth 20000 in
theorem f118_ok {n d : Nat} {x1 : Int32} {x2 : Int32} {s : zσ} {v : Int32} {s2 : zσ} (hd : 0 ≤ d) (h : f118 n x1 x2 s = some (v, s2)) {w : zσ} {fz : Bool} {L : Nat} {xs : Nat → Int32} : zGo (zX fz L xs) d q_118 (0, [(0, .ref 1014), (1, .int x1), (2, .int x2)], [], zmk s w, 0, 0) (some (.int v), zmk s2 w, 0, 0) := by
  unfold f118 at h
  refine zGo_s (pc' := 1) (st' := [.ref 1014]) dd118_0 rfl ?_
  refine cGF (e := 1016) dd118_1 rfl rfl rfl rfl rfl ?_
  refine zGo_s (pc' := 5) (st' := [.int x1, .ref 1016]) dd118_4 rfl ?_
  obtain ⟨hi, h⟩ := ochk h
  refine cIA dd118_5 rfl rfl hi ?_
  refine zGo_s (pc' := 7) (st' := [.int x2, .int (s.1 1016 (nx x1))]) dd118_6 rfl ?_
  rcases oite h with ⟨hc, h⟩ | ⟨hc, h⟩
  · refine zIT dd118_7 rfl (kEqT hc) ?_
    refine zGo_s (pc' := 14) (st' := [.ref 1014]) dd118_13 rfl ?_
    refine cGF (e := 1016) dd118_14 rfl rfl rfl rfl rfl ?_
    refine zGo_s (pc' := 18) (st' := [.int x1, .ref 1016]) dd118_17 rfl ?_
    refine zGo_s (pc' := 19) (st' := [.int (-1 : Int32), .int x1, .ref 1016]) dd118_18 rfl ?_
    obtain ⟨hi, h⟩ := ochk h
    obtain ⟨u1, e_u1, h⟩ := olet h
    refine cIS dd118_19 rfl rfl hi e_u1 ?_
    refine zGo_s (pc' := 21) (st' := [.int (0 : Int32)]) dd118_20 rfl ?_
    obtain ⟨rfl, rfl⟩ := oret h
    exact zGo_ret dd118_21 rfl rfl
  · refine zIF dd118_7 (kEqF hc) ?_
    refine zGo_s (pc' := 12) (st' := [.int (8 : Int32)]) dd118_10 rfl ?_
    obtain ⟨rfl, rfl⟩ := oret h
    exact zGo_ret dd118_12 rfl rfl
/-! PH$Gates.leave(II)I -/
theorem dd119_0 : decode cX2_leave 0 = .ok (.aload_n 0, 1) := by decide +kernel
theorem dd119_1 : decode cX2_leave 1 = .ok (.getfield 18, 3) := by decide +kernel
theorem dd119_4 : decode cX2_leave 4 = .ok (.iload_n 1, 1) := by decide +kernel
theorem dd119_5 : decode cX2_leave 5 = .ok (.bipush 8, 2) := by decide +kernel
theorem dd119_7 : decode cX2_leave 7 = .ok (.imul, 1) := by decide +kernel
theorem dd119_8 : decode cX2_leave 8 = .ok (.iload_n 2, 1) := by decide +kernel
theorem dd119_9 : decode cX2_leave 9 = .ok (.iadd, 1) := by decide +kernel
theorem dd119_10 : decode cX2_leave 10 = .ok (.iaload, 1) := by decide +kernel
theorem dd119_11 : decode cX2_leave 11 = .ok (.ifCond .ne 6, 3) := by decide +kernel
theorem dd119_14 : decode cX2_leave 14 = .ok (.bipush 8, 2) := by decide +kernel
theorem dd119_16 : decode cX2_leave 16 = .ok (.ireturn, 1) := by decide +kernel
theorem dd119_17 : decode cX2_leave 17 = .ok (.aload_n 0, 1) := by decide +kernel
theorem dd119_18 : decode cX2_leave 18 = .ok (.getfield 18, 3) := by decide +kernel
theorem dd119_21 : decode cX2_leave 21 = .ok (.iload_n 1, 1) := by decide +kernel
theorem dd119_22 : decode cX2_leave 22 = .ok (.bipush 8, 2) := by decide +kernel
theorem dd119_24 : decode cX2_leave 24 = .ok (.imul, 1) := by decide +kernel
theorem dd119_25 : decode cX2_leave 25 = .ok (.iload_n 2, 1) := by decide +kernel
theorem dd119_26 : decode cX2_leave 26 = .ok (.iadd, 1) := by decide +kernel
theorem dd119_27 : decode cX2_leave 27 = .ok (.dup2, 1) := by decide +kernel
theorem dd119_28 : decode cX2_leave 28 = .ok (.iaload, 1) := by decide +kernel
theorem dd119_29 : decode cX2_leave 29 = .ok (.iconst 1, 1) := by decide +kernel
theorem dd119_30 : decode cX2_leave 30 = .ok (.isub, 1) := by decide +kernel
theorem dd119_31 : decode cX2_leave 31 = .ok (.iastore, 1) := by decide +kernel
theorem dd119_32 : decode cX2_leave 32 = .ok (.iconst 0, 1) := by decide +kernel
theorem dd119_33 : decode cX2_leave 33 = .ok (.ireturn, 1) := by decide +kernel
def f119 (n : Nat) (x1 : Int32) (x2 : Int32) (s : zσ) : Option (Int32 × zσ) :=
    if zin? ((x1 * (8 : Int32)) + x2) 32 = true then
    if (s.1 1017 (nx ((x1 * (8 : Int32)) + x2))) = (0 : Int32) then
    some ((8 : Int32), s)
    else if zin? ((x1 * (8 : Int32)) + x2) 32 = true then
    if zin? ((x1 * (8 : Int32)) + x2) 32 = true then
    zlet (sI s 1017 (nx ((x1 * (8 : Int32)) + x2)) ((s.1 1017 (nx ((x1 * (8 : Int32)) + x2))) - (1 : Int32))) fun u1 =>
    some ((0 : Int32), u1)
    else none
    else none
    else none
set_option maxRecDepth 20000 in
theorem f119_ok {n d : Nat} {x1 : Int32} {x2 : Int32} {s : zσ} {v : Int32} {s2 : zσ} (hd : 0 ≤ d) (h : f119 n x1 x2 s = some (v, s2)) {w : zσ} {fz : Bool} {L : Nat} {xs : Nat → Int32} : zGo (zX fz L xs) d q_119 (0, [(0, .ref 1014), (1, .int x1), (2, .int x2)], [], zmk s w, 0, 0) (some (.int v), zmk s2 w, 0, 0) := by
  unfold f119 at h
  refine zGo_s (pc' := 1) (st' := [.ref 1014]) dd119_0 rfl ?_
  refine cGF (e := 1017) dd119_1 rfl rfl rfl rfl rfl ?_
  refine zGo_s (pc' := 5) (st' := [.int x1, .ref 1017]) dd119_4 rfl ?_
  refine zGo_s (pc' := 7) (st' := [.int (8 : Int32), .int x1, .ref 1017]) dd119_5 rfl ?_
  refine zGo_s (pc' := 8) (st' := [.int (x1 * (8 : Int32)), .ref 1017]) dd119_7 rfl ?_
  refine zGo_s (pc' := 9) (st' := [.int x2, .int (x1 * (8 : Int32)), .ref 1017]) dd119_8 rfl ?_
  refine zGo_s (pc' := 10) (st' := [.int ((x1 * (8 : Int32)) + x2), .ref 1017]) dd119_9 rfl ?_
  obtain ⟨hi, h⟩ := ochk h
  refine cIA dd119_10 rfl rfl hi ?_
  rcases oite h with ⟨hc, h⟩ | ⟨hc, h⟩
  · refine zUF dd119_11 (kNeF hc) ?_
    refine zGo_s (pc' := 16) (st' := [.int (8 : Int32)]) dd119_14 rfl ?_
    obtain ⟨rfl, rfl⟩ := oret h
    exact zGo_ret dd119_16 rfl rfl
  · refine zUT dd119_11 rfl (kNeT hc) ?_
    refine zGo_s (pc' := 18) (st' := [.ref 1014]) dd119_17 rfl ?_
    refine cGF (e := 1017) dd119_18 rfl rfl rfl rfl rfl ?_
    refine zGo_s (pc' := 22) (st' := [.int x1, .ref 1017]) dd119_21 rfl ?_
    refine zGo_s (pc' := 24) (st' := [.int (8 : Int32), .int x1, .ref 1017]) dd119_22 rfl ?_
    refine zGo_s (pc' := 25) (st' := [.int (x1 * (8 : Int32)), .ref 1017]) dd119_24 rfl ?_
    refine zGo_s (pc' := 26) (st' := [.int x2, .int (x1 * (8 : Int32)), .ref 1017]) dd119_25 rfl ?_
    refine zGo_s (pc' := 27) (st' := [.int ((x1 * (8 : Int32)) + x2), .ref 1017]) dd119_26 rfl ?_
    refine zGo_s (pc' := 28) (st' := [.int ((x1 * (8 : Int32)) + x2), .ref 1017, .int ((x1 * (8 : Int32)) + x2), .ref 1017]) dd119_27 rfl ?_
    obtain ⟨hi, h⟩ := ochk h
    refine cIA dd119_28 rfl rfl hi ?_
    refine zGo_s (pc' := 30) (st' := [.int (1 : Int32), .int (s.1 1017 (nx ((x1 * (8 : Int32)) + x2))), .int ((x1 * (8 : Int32)) + x2), .ref 1017]) dd119_29 rfl ?_
    refine zGo_s (pc' := 31) (st' := [.int ((s.1 1017 (nx ((x1 * (8 : Int32)) + x2))) - (1 : Int32)), .int ((x1 * (8 : Int32)) + x2), .ref 1017]) dd119_30 rfl ?_
    obtain ⟨hi, h⟩ := ochk h
    obtain ⟨u1, e_u1, h⟩ := olet h
    refine cIS dd119_31 rfl rfl hi e_u1 ?_
    refine zGo_s (pc' := 33) (st' := [.int (0 : Int32)]) dd119_32 rfl ?_
    obtain ⟨rfl, rfl⟩ := oret h
    exact zGo_ret dd119_33 rfl rfl
/-! PH$Gates.put(II)I -/
theorem dd120_0 : decode cX2_put 0 = .ok (.aload_n 0, 1) := by decide +kernel
theorem dd120_1 : decode cX2_put 1 = .ok (.getfield 30, 3) := by decide +kernel
theorem dd120_4 : decode cX2_put 4 = .ok (.iload_n 1, 1) := by decide +kernel
theorem dd120_5 : decode cX2_put 5 = .ok (.iaload, 1) := by decide +kernel
theorem dd120_6 : decode cX2_put 6 = .ok (.bipush 40, 2) := by decide +kernel
theorem dd120_8 : decode cX2_put 8 = .ok (.if_icmp .lt 6, 3) := by decide +kernel
theorem dd120_11 : decode cX2_put 11 = .ok (.bipush 8, 2) := by decide +kernel
theorem dd120_13 : decode cX2_put 13 = .ok (.ireturn, 1) := by decide +kernel
theorem dd120_14 : decode cX2_put 14 = .ok (.aload_n 0, 1) := by decide +kernel
theorem dd120_15 : decode cX2_put 15 = .ok (.getfield 27, 3) := by decide +kernel
theorem dd120_18 : decode cX2_put 18 = .ok (.iload_n 1, 1) := by decide +kernel
theorem dd120_19 : decode cX2_put 19 = .ok (.bipush 40, 2) := by decide +kernel
theorem dd120_21 : decode cX2_put 21 = .ok (.imul, 1) := by decide +kernel
theorem dd120_22 : decode cX2_put 22 = .ok (.aload_n 0, 1) := by decide +kernel
theorem dd120_23 : decode cX2_put 23 = .ok (.getfield 30, 3) := by decide +kernel
theorem dd120_26 : decode cX2_put 26 = .ok (.iload_n 1, 1) := by decide +kernel
theorem dd120_27 : decode cX2_put 27 = .ok (.iaload, 1) := by decide +kernel
theorem dd120_28 : decode cX2_put 28 = .ok (.iadd, 1) := by decide +kernel
theorem dd120_29 : decode cX2_put 29 = .ok (.iload_n 2, 1) := by decide +kernel
theorem dd120_30 : decode cX2_put 30 = .ok (.iastore, 1) := by decide +kernel
theorem dd120_31 : decode cX2_put 31 = .ok (.aload_n 0, 1) := by decide +kernel
theorem dd120_32 : decode cX2_put 32 = .ok (.getfield 30, 3) := by decide +kernel
theorem dd120_35 : decode cX2_put 35 = .ok (.iload_n 1, 1) := by decide +kernel
theorem dd120_36 : decode cX2_put 36 = .ok (.dup2, 1) := by decide +kernel
theorem dd120_37 : decode cX2_put 37 = .ok (.iaload, 1) := by decide +kernel
theorem dd120_38 : decode cX2_put 38 = .ok (.iconst 1, 1) := by decide +kernel
theorem dd120_39 : decode cX2_put 39 = .ok (.iadd, 1) := by decide +kernel
theorem dd120_40 : decode cX2_put 40 = .ok (.iastore, 1) := by decide +kernel
theorem dd120_41 : decode cX2_put 41 = .ok (.iconst 0, 1) := by decide +kernel
theorem dd120_42 : decode cX2_put 42 = .ok (.ireturn, 1) := by decide +kernel
def f120 (n : Nat) (x1 : Int32) (x2 : Int32) (s : zσ) : Option (Int32 × zσ) :=
    if zin? x1 4 = true then
    if (s.1 1021 (nx x1)) < (40 : Int32) then
    if zin? x1 4 = true then
    if zin? ((x1 * (40 : Int32)) + (s.1 1021 (nx x1))) 160 = true then
    zlet (sI s 1020 (nx ((x1 * (40 : Int32)) + (s.1 1021 (nx x1)))) x2) fun u1 =>
    if zin? x1 4 = true then
    if zin? x1 4 = true then
    zlet (sI u1 1021 (nx x1) ((u1.1 1021 (nx x1)) + (1 : Int32))) fun u2 =>
    some ((0 : Int32), u2)
    else none
    else none
    else none
    else none
    else some ((8 : Int32), s)
    else none
set_option maxRecDepth 20000 in
theorem f120_ok {n d : Nat} {x1 : Int32} {x2 : Int32} {s : zσ} {v : Int32} {s2 : zσ} (hd : 0 ≤ d) (h : f120 n x1 x2 s = some (v, s2)) {w : zσ} {fz : Bool} {L : Nat} {xs : Nat → Int32} : zGo (zX fz L xs) d q_120 (0, [(0, .ref 1014), (1, .int x1), (2, .int x2)], [], zmk s w, 0, 0) (some (.int v), zmk s2 w, 0, 0) := by
  unfold f120 at h
  refine zGo_s (pc' := 1) (st' := [.ref 1014]) dd120_0 rfl ?_
  refine cGF (e := 1021) dd120_1 rfl rfl rfl rfl rfl ?_
  refine zGo_s (pc' := 5) (st' := [.int x1, .ref 1021]) dd120_4 rfl ?_
  obtain ⟨hi, h⟩ := ochk h
  refine cIA dd120_5 rfl rfl hi ?_
  refine zGo_s (pc' := 8) (st' := [.int (40 : Int32), .int (s.1 1021 (nx x1))]) dd120_6 rfl ?_
  rcases oite h with ⟨hc, h⟩ | ⟨hc, h⟩
  · refine zIT dd120_8 rfl (kLtT hc) ?_
    refine zGo_s (pc' := 15) (st' := [.ref 1014]) dd120_14 rfl ?_
    refine cGF (e := 1020) dd120_15 rfl rfl rfl rfl rfl ?_
    refine zGo_s (pc' := 19) (st' := [.int x1, .ref 1020]) dd120_18 rfl ?_
    refine zGo_s (pc' := 21) (st' := [.int (40 : Int32), .int x1, .ref 1020]) dd120_19 rfl ?_
    refine zGo_s (pc' := 22) (st' := [.int (x1 * (40 : Int32)), .ref 1020]) dd120_21 rfl ?_
    refine zGo_s (pc' := 23) (st' := [.ref 1014, .int (x1 * (40 : Int32)), .ref 1020]) dd120_22 rfl ?_
    refine cGF (e := 1021) dd120_23 rfl rfl rfl rfl rfl ?_
    refine zGo_s (pc' := 27) (st' := [.int x1, .ref 1021, .int (x1 * (40 : Int32)), .ref 1020]) dd120_26 rfl ?_
    obtain ⟨hi, h⟩ := ochk h
    refine cIA dd120_27 rfl rfl hi ?_
    refine zGo_s (pc' := 29) (st' := [.int ((x1 * (40 : Int32)) + (s.1 1021 (nx x1))), .ref 1020]) dd120_28 rfl ?_
    refine zGo_s (pc' := 30) (st' := [.int x2, .int ((x1 * (40 : Int32)) + (s.1 1021 (nx x1))), .ref 1020]) dd120_29 rfl ?_
    obtain ⟨hi, h⟩ := ochk h
    obtain ⟨u1, e_u1, h⟩ := olet h
    refine cIS dd120_30 rfl rfl hi e_u1 ?_
    refine zGo_s (pc' := 32) (st' := [.ref 1014]) dd120_31 rfl ?_
    refine cGF (e := 1021) dd120_32 rfl rfl rfl rfl rfl ?_
    refine zGo_s (pc' := 36) (st' := [.int x1, .ref 1021]) dd120_35 rfl ?_
    refine zGo_s (pc' := 37) (st' := [.int x1, .ref 1021, .int x1, .ref 1021]) dd120_36 rfl ?_
    obtain ⟨hi, h⟩ := ochk h
    refine cIA dd120_37 rfl rfl hi ?_
    refine zGo_s (pc' := 39) (st' := [.int (1 : Int32), .int (u1.1 1021 (nx x1)), .int x1, .ref 1021]) dd120_38 rfl ?_
    refine zGo_s (pc' := 40) (st' := [.int ((u1.1 1021 (nx x1)) + (1 : Int32)), .int x1, .ref 1021]) dd120_39 rfl ?_
    obtain ⟨hi, h⟩ := ochk h
    obtain ⟨u2, e_u2, h⟩ := olet h
    refine cIS dd120_40 rfl rfl hi e_u2 ?_
    refine zGo_s (pc' := 42) (st' := [.int (0 : Int32)]) dd120_41 rfl ?_
    obtain ⟨rfl, rfl⟩ := oret h
    exact zGo_ret dd120_42 rfl rfl
  · refine zIF dd120_8 (kLtF hc) ?_
    refine zGo_s (pc' := 13) (st' := [.int (8 : Int32)]) dd120_11 rfl ?_
    obtain ⟨rfl, rfl⟩ := oret h
    exact zGo_ret dd120_13 rfl rfl
