/-! PHModel.pop(I)Z -/
theorem dd215_0 : decode cX13_pop 0 = .ok (.aload_n 0, 1) := by decide +kernel
theorem dd215_1 : decode cX13_pop 1 = .ok (.getfield 121, 3) := by decide +kernel
theorem dd215_4 : decode cX13_pop 4 = .ok (.iload_n 1, 1) := by decide +kernel
theorem dd215_5 : decode cX13_pop 5 = .ok (.dup2, 1) := by decide +kernel
theorem dd215_6 : decode cX13_pop 6 = .ok (.iaload, 1) := by decide +kernel
theorem dd215_7 : decode cX13_pop 7 = .ok (.iconst 1, 1) := by decide +kernel
theorem dd215_8 : decode cX13_pop 8 = .ok (.isub, 1) := by decide +kernel
theorem dd215_9 : decode cX13_pop 9 = .ok (.iastore, 1) := by decide +kernel
theorem dd215_10 : decode cX13_pop 10 = .ok (.aload_n 0, 1) := by decide +kernel
theorem dd215_11 : decode cX13_pop 11 = .ok (.getfield 130, 3) := by decide +kernel
theorem dd215_14 : decode cX13_pop 14 = .ok (.sipush 140, 3) := by decide +kernel
theorem dd215_17 : decode cX13_pop 17 = .ok (.iload_n 1, 1) := by decide +kernel
theorem dd215_18 : decode cX13_pop 18 = .ok (.imul, 1) := by decide +kernel
theorem dd215_19 : decode cX13_pop 19 = .ok (.aload_n 0, 1) := by decide +kernel
theorem dd215_20 : decode cX13_pop 20 = .ok (.getfield 121, 3) := by decide +kernel
theorem dd215_23 : decode cX13_pop 23 = .ok (.iload_n 1, 1) := by decide +kernel
theorem dd215_24 : decode cX13_pop 24 = .ok (.iaload, 1) := by decide +kernel
theorem dd215_25 : decode cX13_pop 25 = .ok (.iadd, 1) := by decide +kernel
theorem dd215_26 : decode cX13_pop 26 = .ok (.baload, 1) := by decide +kernel
theorem dd215_27 : decode cX13_pop 27 = .ok (.istore_n 2, 1) := by decide +kernel
theorem dd215_28 : decode cX13_pop 28 = .ok (.iload_n 2, 1) := by decide +kernel
theorem dd215_29 : decode cX13_pop 29 = .ok (.ifCond .eq 23, 3) := by decide +kernel
theorem dd215_32 : decode cX13_pop 32 = .ok (.aload_n 0, 1) := by decide +kernel
theorem dd215_33 : decode cX13_pop 33 = .ok (.getfield 118, 3) := by decide +kernel
theorem dd215_36 : decode cX13_pop 36 = .ok (.iload_n 1, 1) := by decide +kernel
theorem dd215_37 : decode cX13_pop 37 = .ok (.dup2, 1) := by decide +kernel
theorem dd215_38 : decode cX13_pop 38 = .ok (.iaload, 1) := by decide +kernel
theorem dd215_39 : decode cX13_pop 39 = .ok (.iconst 1, 1) := by decide +kernel
theorem dd215_40 : decode cX13_pop 40 = .ok (.isub, 1) := by decide +kernel
theorem dd215_41 : decode cX13_pop 41 = .ok (.iastore, 1) := by decide +kernel
theorem dd215_42 : decode cX13_pop 42 = .ok (.aload_n 0, 1) := by decide +kernel
theorem dd215_43 : decode cX13_pop 43 = .ok (.dup, 1) := by decide +kernel
theorem dd215_44 : decode cX13_pop 44 = .ok (.getfield 580, 3) := by decide +kernel
theorem dd215_47 : decode cX13_pop 47 = .ok (.iconst 1, 1) := by decide +kernel
theorem dd215_48 : decode cX13_pop 48 = .ok (.iadd, 1) := by decide +kernel
theorem dd215_49 : decode cX13_pop 49 = .ok (.putfield 580, 3) := by decide +kernel
theorem dd215_52 : decode cX13_pop 52 = .ok (.iload_n 2, 1) := by decide +kernel
theorem dd215_53 : decode cX13_pop 53 = .ok (.ireturn, 1) := by decide +kernel
def f215 (n : Nat) (x1 : Int32) (s : zσ) : Option (Int32 × zσ) :=
    if zin? x1 8 = true then
    if zin? x1 8 = true then
    zlet (sI s 1235 (nx x1) ((s.1 1235 (nx x1)) - (1 : Int32))) fun u1 =>
    if zin? x1 8 = true then
    if zin? (((140 : Int32) * x1) + (u1.1 1235 (nx x1))) 1120 = true then
    zlet ((u1.1 1238 (nx (((140 : Int32) * x1) + (u1.1 1235 (nx x1)))))) fun v2 =>
    if v2 = (0 : Int32) then
    if v2 = 0 ∨ v2 = 1 then
    some (v2, u1)
    else none
    else if zin? x1 8 = true then
    if zin? x1 8 = true then
    zlet (sI u1 1234 (nx x1) ((u1.1 1234 (nx x1)) - (1 : Int32))) fun u3 =>
    zlet (sI u3 1132 27 ((u3.1 1132 27) + (1 : Int32))) fun u4 =>
    if v2 = 0 ∨ v2 = 1 then
    some (v2, u4)
    else none
    else none
    else none
    else none
    else none
    else none
    else none
set_option maxRecDepth 20000 in
theorem f215_ok {n d : Nat} {x1 : Int32} {s : zσ} {v : Int32} {s2 : zσ} (hd : 0 ≤ d) (h : f215 n x1 s = some (v, s2)) {w : zσ} {fz : Bool} {L : Nat} {xs : Nat → Int32} : zGo (zX fz L xs) d q_215 (0, [(0, .ref 1132), (1, .int x1)], [], zmk w s, 0, 0) (some (.int v), zmk w s2, 0, 0) := by
  unfold f215 at h
  refine zGo_s (pc' := 1) (st' := [.ref 1132]) dd215_0 rfl ?_
  refine mGF (e := 1235) dd215_1 rfl rfl rfl rfl rfl ?_
  refine zGo_s (pc' := 5) (st' := [.int x1, .ref 1235]) dd215_4 rfl ?_
  refine zGo_s (pc' := 6) (st' := [.int x1, .ref 1235, .int x1, .ref 1235]) dd215_5 rfl ?_
  obtain ⟨hi, h⟩ := ochk h
  refine mIA dd215_6 rfl rfl hi ?_
  refine zGo_s (pc' := 8) (st' := [.int (1 : Int32), .int (s.1 1235 (nx x1)), .int x1, .ref 1235]) dd215_7 rfl ?_
  refine zGo_s (pc' := 9) (st' := [.int ((s.1 1235 (nx x1)) - (1 : Int32)), .int x1, .ref 1235]) dd215_8 rfl ?_
  obtain ⟨hi, h⟩ := ochk h
  obtain ⟨u1, e_u1, h⟩ := olet h
  refine mIS dd215_9 rfl rfl hi e_u1 ?_
  refine zGo_s (pc' := 11) (st' := [.ref 1132]) dd215_10 rfl ?_
  refine mGF (e := 1238) dd215_11 rfl rfl rfl rfl rfl ?_
  refine zGo_s (pc' := 17) (st' := [.int (140 : Int32), .ref 1238]) dd215_14 rfl ?_
  refine zGo_s (pc' := 18) (st' := [.int x1, .int (140 : Int32), .ref 1238]) dd215_17 rfl ?_
  refine zGo_s (pc' := 19) (st' := [.int ((140 : Int32) * x1), .ref 1238]) dd215_18 rfl ?_
  refine zGo_s (pc' := 20) (st' := [.ref 1132, .int ((140 : Int32) * x1), .ref 1238]) dd215_19 rfl ?_
  refine mGF (e := 1235) dd215_20 rfl rfl rfl rfl rfl ?_
  refine zGo_s (pc' := 24) (st' := [.int x1, .ref 1235, .int ((140 : Int32) * x1), .ref 1238]) dd215_23 rfl ?_
  obtain ⟨hi, h⟩ := ochk h
  refine mIA dd215_24 rfl rfl hi ?_
  refine zGo_s (pc' := 26) (st' := [.int (((140 : Int32) * x1) + (u1.1 1235 (nx x1))), .ref 1238]) dd215_25 rfl ?_
  obtain ⟨hi, h⟩ := ochk h
  refine mBA dd215_26 rfl rfl rfl hi ?_
  obtain ⟨v2, e_v2, h⟩ := olet h
  refine zGo_is1 e_v2 dd215_27 (x' := (28, [(2, .int v2), (0, .ref 1132), (1, .int x1)], [], _, _, _)) rfl ?_
  refine zGo_s (pc' := 29) (st' := [.int v2]) dd215_28 rfl ?_
  rcases oite h with ⟨hc, h⟩ | ⟨hc, h⟩
  · refine zUT dd215_29 rfl (kEqT hc) ?_
    refine zGo_s (pc' := 53) (st' := [.int v2]) dd215_52 rfl ?_
    obtain ⟨hb, h⟩ := ochk h
    obtain ⟨rfl, rfl⟩ := oret h
    exact zGo_ret dd215_53 rfl (if_pos hb)
  · refine zUF dd215_29 (kEqF hc) ?_
    refine zGo_s (pc' := 33) (st' := [.ref 1132]) dd215_32 rfl ?_
    refine mGF (e := 1234) dd215_33 rfl rfl rfl rfl rfl ?_
    refine zGo_s (pc' := 37) (st' := [.int x1, .ref 1234]) dd215_36 rfl ?_
    refine zGo_s (pc' := 38) (st' := [.int x1, .ref 1234, .int x1, .ref 1234]) dd215_37 rfl ?_
    obtain ⟨hi, h⟩ := ochk h
    refine mIA dd215_38 rfl rfl hi ?_
    refine zGo_s (pc' := 40) (st' := [.int (1 : Int32), .int (u1.1 1234 (nx x1)), .int x1, .ref 1234]) dd215_39 rfl ?_
    refine zGo_s (pc' := 41) (st' := [.int ((u1.1 1234 (nx x1)) - (1 : Int32)), .int x1, .ref 1234]) dd215_40 rfl ?_
    obtain ⟨hi, h⟩ := ochk h
    obtain ⟨u3, e_u3, h⟩ := olet h
    refine mIS dd215_41 rfl rfl hi e_u3 ?_
    refine zGo_s (pc' := 43) (st' := [.ref 1132]) dd215_42 rfl ?_
    refine zGo_s (pc' := 44) (st' := [.ref 1132, .ref 1132]) dd215_43 rfl ?_
    refine mGI dd215_44 rfl rfl rfl rfl ?_
    refine zGo_s (pc' := 48) (st' := [.int (1 : Int32), .int (u3.1 1132 27), .ref 1132]) dd215_47 rfl ?_
    refine zGo_s (pc' := 49) (st' := [.int ((u3.1 1132 27) + (1 : Int32)), .ref 1132]) dd215_48 rfl ?_
    obtain ⟨u4, e_u4, h⟩ := olet h
    refine mPI dd215_49 rfl rfl rfl rfl rfl rfl e_u4 ?_
    refine zGo_s (pc' := 53) (st' := [.int v2]) dd215_52 rfl ?_
    obtain ⟨hb, h⟩ := ochk h
    obtain ⟨rfl, rfl⟩ := oret h
    exact zGo_ret dd215_53 rfl (if_pos hb)
/-! PHModel.scope(I)I -/
theorem dd218_0 : decode cX13_scope 0 = .ok (.aload_n 0, 1) := by decide +kernel
theorem dd218_1 : decode cX13_scope 1 = .ok (.iload_n 1, 1) := by decide +kernel
theorem dd218_2 : decode cX13_scope 2 = .ok (.invokevirtual 591, 3) := by decide +kernel
theorem dd218_5 : decode cX13_scope 5 = .ok (.istore_n 2, 1) := by decide +kernel
theorem dd218_6 : decode cX13_scope 6 = .ok (.aload_n 0, 1) := by decide +kernel
theorem dd218_7 : decode cX13_scope 7 = .ok (.getfield 130, 3) := by decide +kernel
theorem dd218_10 : decode cX13_scope 10 = .ok (.iload_n 2, 1) := by decide +kernel
theorem dd218_11 : decode cX13_scope 11 = .ok (.baload, 1) := by decide +kernel
theorem dd218_12 : decode cX13_scope 12 = .ok (.ifCond .ne 9, 3) := by decide +kernel
theorem dd218_15 : decode cX13_scope 15 = .ok (.iinc 2 (-1), 3) := by decide +kernel
theorem dd218_18 : decode cX13_scope 18 = .ok (.goto (-12), 3) := by decide +kernel
theorem dd218_21 : decode cX13_scope 21 = .ok (.iload_n 2, 1) := by decide +kernel
theorem dd218_22 : decode cX13_scope 22 = .ok (.ireturn, 1) := by decide +kernel
def f218_6 (n : Nat) : Nat → Int32 → zσ → Option (Int32 × zσ)
  | 0, _, _ => none
  | j + 1, x2, s =>
    if zin? x2 1120 = true then
    if (s.1 1238 (nx x2)) = (0 : Int32) then
    f218_6 n j (x2 + (-1 : Int32)) s
    else some (x2, s)
    else none
set_option maxRecDepth 20000 in
theorem f218_6_ok {n d : Nat} (hd : 1 ≤ d) : ∀ (j : Nat) (x2 : Int32) (s : zσ) (v : Int32) (s2 : zσ), f218_6 n j x2 s = some (v, s2) → ∀ {w : zσ} {fz : Bool} {L : Nat} {xs : Nat → Int32}, zGo (zX fz L xs) d q_218 (6, [(0, .ref 1132), (2, .int x2)], [], zmk w s, 0, 0) (some (.int v), zmk w s2, 0, 0) := by
  obtain ⟨d, rfl⟩ : ∃ d0, d = d0 + 1 := ⟨d - 1, by omega⟩
  intro j
  induction j with
  | zero => intro x2 s v s2 h; cases h
  | succ j ih =>
    intro x2 s v s2 h w fz L xs
    rw [f218_6] at h
    refine zGo_s (pc' := 7) (st' := [.ref 1132]) dd218_6 rfl ?_
    refine mGF (e := 1238) dd218_7 rfl rfl rfl rfl rfl ?_
    refine zGo_s (pc' := 11) (st' := [.int x2, .ref 1238]) dd218_10 rfl ?_
    obtain ⟨hi, h⟩ := ochk h
    refine mBA dd218_11 rfl rfl rfl hi ?_
    rcases oite h with ⟨hc, h⟩ | ⟨hc, h⟩
    · refine zUF dd218_12 (kNeF hc) ?_
      refine zGo_s (pc' := 18) (st' := []) (lv' := [(2, .int (x2 + (-1 : Int32))), (0, .ref 1132)]) dd218_15 rfl ?_
      refine zGo_s (pc' := 6) (st' := []) dd218_18 rfl ?_
      exact zGo_lv (lv := [(0, .ref 1132), (2, .int (x2 + (-1 : Int32)))]) ⟨by simp, by simp, by simp⟩ (ih _ _ _ _ h)
    · refine zUT dd218_12 rfl (kNeT hc) ?_
      refine zGo_s (pc' := 22) (st' := [.int x2]) dd218_21 rfl ?_
      obtain ⟨rfl, rfl⟩ := oret h
      exact zGo_ret dd218_22 rfl rfl
def f218 (n : Nat) (x1 : Int32) (s : zσ) : Option (Int32 × zσ) :=
    yb1 (f214 n x1 s) fun v2 u1 =>
    f218_6 n n v2 u1
set_option maxRecDepth 20000 in
theorem f218_ok {n d : Nat} {x1 : Int32} {s : zσ} {v : Int32} {s2 : zσ} (hd : 1 ≤ d) (h : f218 n x1 s = some (v, s2)) {w : zσ} {fz : Bool} {L : Nat} {xs : Nat → Int32} : zGo (zX fz L xs) d q_218 (0, [(0, .ref 1132), (1, .int x1)], [], zmk w s, 0, 0) (some (.int v), zmk w s2, 0, 0) := by
  obtain ⟨d, rfl⟩ : ∃ d0, d = d0 + 1 := ⟨d - 1, by omega⟩
  unfold f218 at h
  refine zGo_s (pc' := 1) (st' := [.ref 1132]) dd218_0 rfl ?_
  refine zGo_s (pc' := 2) (st' := [.int x1, .ref 1132]) dd218_1 rfl ?_
  obtain ⟨v2, u1, hq, h⟩ := obnd h
  refine zCV1 (As := [.int x1]) (rest := []) (b := 1132) (q' := q_214) dd218_2 rfl rfl (rcv_m rfl rfl (by decide)) rfl rfl rfl (f214_ok (d := d) (by omega)  hq) ?_
  refine zGo_s (pc' := 6) (st' := []) (lv' := [(2, .int v2), (0, .ref 1132), (1, .int x1)]) dd218_5 rfl ?_
  exact zGo_lv (lv := [(0, .ref 1132), (2, .int v2)]) ⟨by simp, by simp, by simp⟩ (f218_6_ok hd _ _ _ _ _ h)
/-! PHModel.setName(III)V -/
theorem dd217_0 : decode cX13_setName 0 = .ok (.aload_n 0, 1) := by decide +kernel
theorem dd217_1 : decode cX13_setName 1 = .ok (.getfield 20, 3) := by decide +kernel
theorem dd217_4 : decode cX13_setName 4 = .ok (.getfield 544, 3) := by decide +kernel
theorem dd217_7 : decode cX13_setName 7 = .ok (.iload_n 2, 1) := by decide +kernel
theorem dd217_8 : decode cX13_setName 8 = .ok (.iaload, 1) := by decide +kernel
theorem dd217_9 : decode cX13_setName 9 = .ok (.istore 4, 2) := by decide +kernel
theorem dd217_11 : decode cX13_setName 11 = .ok (.aload_n 0, 1) := by decide +kernel
theorem dd217_12 : decode cX13_setName 12 = .ok (.getfield 20, 3) := by decide +kernel
theorem dd217_15 : decode cX13_setName 15 = .ok (.getfield 541, 3) := by decide +kernel
theorem dd217_18 : decode cX13_setName 18 = .ok (.iload_n 2, 1) := by decide +kernel
theorem dd217_19 : decode cX13_setName 19 = .ok (.iaload, 1) := by decide +kernel
theorem dd217_20 : decode cX13_setName 20 = .ok (.ifCond .ne 14, 3) := by decide +kernel
theorem dd217_23 : decode cX13_setName 23 = .ok (.aload_n 0, 1) := by decide +kernel
theorem dd217_24 : decode cX13_setName 24 = .ok (.getfield 36, 3) := by decide +kernel
theorem dd217_27 : decode cX13_setName 27 = .ok (.iload 4, 2) := by decide +kernel
theorem dd217_29 : decode cX13_setName 29 = .ok (.iload_n 3, 1) := by decide +kernel
theorem dd217_30 : decode cX13_setName 30 = .ok (.iastore, 1) := by decide +kernel
theorem dd217_31 : decode cX13_setName 31 = .ok (.goto 19, 3) := by decide +kernel
theorem dd217_34 : decode cX13_setName 34 = .ok (.aload_n 0, 1) := by decide +kernel
theorem dd217_35 : decode cX13_setName 35 = .ok (.getfield 133, 3) := by decide +kernel
theorem dd217_38 : decode cX13_setName 38 = .ok (.iconst 3, 1) := by decide +kernel
theorem dd217_39 : decode cX13_setName 39 = .ok (.aload_n 0, 1) := by decide +kernel
theorem dd217_40 : decode cX13_setName 40 = .ok (.iload_n 1, 1) := by decide +kernel
theorem dd217_41 : decode cX13_setName 41 = .ok (.invokevirtual 620, 3) := by decide +kernel
theorem dd217_44 : decode cX13_setName 44 = .ok (.imul, 1) := by decide +kernel
theorem dd217_45 : decode cX13_setName 45 = .ok (.iload 4, 2) := by decide +kernel
theorem dd217_47 : decode cX13_setName 47 = .ok (.iadd, 1) := by decide +kernel
theorem dd217_48 : decode cX13_setName 48 = .ok (.iload_n 3, 1) := by decide +kernel
theorem dd217_49 : decode cX13_setName 49 = .ok (.iastore, 1) := by decide +kernel
theorem dd217_50 : decode cX13_setName 50 = .ok (.return_, 1) := by decide +kernel
def f217 (n : Nat) (x1 : Int32) (x2 : Int32) (x3 : Int32) (s : zσ) : Option zσ :=
    zrd 12 (s.2.2 1132 11) fun a1 =>
    if zin? x2 1400 = true then
    zlet ((s.1 (a1 + 33) (nx x2))) fun v2 =>
    zrd 12 (s.2.2 1132 11) fun a3 =>
    if zin? x2 1400 = true then
    if (s.1 (a3 + 34) (nx x2)) = (0 : Int32) then
    if zin? v2 8 = true then
    zlet (sI s 1207 (nx v2) x3) fun u7 =>
    some u7
    else none
    else yb1 (f218 n x1 s) fun v5 u4 =>
    if zin? (((3 : Int32) * v5) + v2) 3360 = true then
    zlet (sI u4 1239 (nx (((3 : Int32) * v5) + v2)) x3) fun u6 =>
    some u6
    else none
    else none
    else none
set_option maxRecDepth 20000 in
theorem f217_ok {n d : Nat} {x1 : Int32} {x2 : Int32} {x3 : Int32} {s : zσ} {s2 : zσ} (hd : 2 ≤ d) (h : f217 n x1 x2 x3 s = some s2) {w : zσ} {fz : Bool} {L : Nat} {xs : Nat → Int32} : zGo (zX fz L xs) d q_217 (0, [(0, .ref 1132), (1, .int x1), (2, .int x2), (3, .int x3)], [], zmk w s, 0, 0) (none, zmk w s2, 0, 0) := by
  obtain ⟨d, rfl⟩ : ∃ d0, d = d0 + 1 := ⟨d - 1, by omega⟩
  unfold f217 at h
  refine zGo_s (pc' := 1) (st' := [.ref 1132]) dd217_0 rfl ?_
  obtain ⟨a1, e_a1, c_a1, h⟩ := ordd h
  refine mGR dd217_1 rfl rfl rfl rfl e_a1 ?_
  refine mGF (e := (a1 + 33)) dd217_4 rfl (ck12_s c_a1).1 (ck12_s c_a1).2 rfl (cf12_39 c_a1).1 ?_
  refine zGo_s (pc' := 8) (st' := [.int x2, .ref (a1 + 33)]) dd217_7 rfl ?_
  obtain ⟨hi, h⟩ := ochk h
  refine mIA dd217_8 (cf12_39 c_a1).2.1 (cf12_39 c_a1).2.2 hi ?_
  obtain ⟨v2, e_v2, h⟩ := olet h
  refine zGo_is1 e_v2 dd217_9 (x' := (11, [(4, .int v2), (0, .ref 1132), (1, .int x1), (2, .int x2), (3, .int x3)], [], _, _, _)) rfl ?_
  refine zGo_s (pc' := 12) (st' := [.ref 1132]) dd217_11 rfl ?_
  obtain ⟨a3, e_a3, c_a3, h⟩ := ordd h
  refine mGR dd217_12 rfl rfl rfl rfl e_a3 ?_
  refine mGF (e := (a3 + 34)) dd217_15 rfl (ck12_s c_a3).1 (ck12_s c_a3).2 rfl (cf12_40 c_a3).1 ?_
  refine zGo_s (pc' := 19) (st' := [.int x2, .ref (a3 + 34)]) dd217_18 rfl ?_
  obtain ⟨hi, h⟩ := ochk h
  refine mIA dd217_19 (cf12_40 c_a3).2.1 (cf12_40 c_a3).2.2 hi ?_
  rcases oite h with ⟨hc, h⟩ | ⟨hc, h⟩
  · refine zUF dd217_20 (kNeF hc) ?_
    refine zGo_s (pc' := 24) (st' := [.ref 1132]) dd217_23 rfl ?_
    refine mGF (e := 1207) dd217_24 rfl rfl rfl rfl rfl ?_
    refine zGo_s (pc' := 29) (st' := [.int v2, .ref 1207]) dd217_27 rfl ?_
    refine zGo_s (pc' := 30) (st' := [.int x3, .int v2, .ref 1207]) dd217_29 rfl ?_
    obtain ⟨hi, h⟩ := ochk h
    obtain ⟨u7, e_u7, h⟩ := olet h
    refine mIS dd217_30 rfl rfl hi e_u7 ?_
    refine zGo_s (pc' := 50) (st' := []) dd217_31 rfl ?_
    obtain rfl := ore0 h
    exact zGo_ret dd217_50 rfl rfl
  · refine zUT dd217_20 rfl (kNeT hc) ?_
    refine zGo_s (pc' := 35) (st' := [.ref 1132]) dd217_34 rfl ?_
    refine mGF (e := 1239) dd217_35 rfl rfl rfl rfl rfl ?_
    refine zGo_s (pc' := 39) (st' := [.int (3 : Int32), .ref 1239]) dd217_38 rfl ?_
    refine zGo_s (pc' := 40) (st' := [.ref 1132, .int (3 : Int32), .ref 1239]) dd217_39 rfl ?_
    refine zGo_s (pc' := 41) (st' := [.int x1, .ref 1132, .int (3 : Int32), .ref 1239]) dd217_40 rfl ?_
    obtain ⟨v5, u4, hq, h⟩ := obnd h
    refine zCV1 (As := [.int x1]) (rest := [.int (3 : Int32), .ref 1239]) (b := 1132) (q' := q_218) dd217_41 rfl rfl (rcv_m rfl rfl (by decide)) rfl rfl rfl (f218_ok (d := d) (by omega)  hq) ?_
    refine zGo_s (pc' := 45) (st' := [.int ((3 : Int32) * v5), .ref 1239]) dd217_44 rfl ?_
    refine zGo_s (pc' := 47) (st' := [.int v2, .int ((3 : Int32) * v5), .ref 1239]) dd217_45 rfl ?_
    refine zGo_s (pc' := 48) (st' := [.int (((3 : Int32) * v5) + v2), .ref 1239]) dd217_47 rfl ?_
    refine zGo_s (pc' := 49) (st' := [.int x3, .int (((3 : Int32) * v5) + v2), .ref 1239]) dd217_48 rfl ?_
    obtain ⟨hi, h⟩ := ochk h
    obtain ⟨u6, e_u6, h⟩ := olet h
    refine mIS dd217_49 rfl rfl hi e_u6 ?_
    obtain rfl := ore0 h
    exact zGo_ret dd217_50 rfl rfl
/-! PHModel.returned(II)V -/
theorem dd216_0 : decode cX13_returned 0 = .ok (.aload_n 0, 1) := by decide +kernel
theorem dd216_1 : decode cX13_returned 1 = .ok (.getfield 127, 3) := by decide +kernel
theorem dd216_4 : decode cX13_returned 4 = .ok (.aload_n 0, 1) := by decide +kernel
theorem dd216_5 : decode cX13_returned 5 = .ok (.iload_n 1, 1) := by decide +kernel
theorem dd216_6 : decode cX13_returned 6 = .ok (.invokevirtual 591, 3) := by decide +kernel
theorem dd216_9 : decode cX13_returned 9 = .ok (.iaload, 1) := by decide +kernel
theorem dd216_10 : decode cX13_returned 10 = .ok (.istore_n 3, 1) := by decide +kernel
theorem dd216_11 : decode cX13_returned 11 = .ok (.aload_n 0, 1) := by decide +kernel
theorem dd216_12 : decode cX13_returned 12 = .ok (.getfield 20, 3) := by decide +kernel
theorem dd216_15 : decode cX13_returned 15 = .ok (.getfield 441, 3) := by decide +kernel
theorem dd216_18 : decode cX13_returned 18 = .ok (.iload_n 3, 1) := by decide +kernel
theorem dd216_19 : decode cX13_returned 19 = .ok (.iaload, 1) := by decide +kernel
theorem dd216_20 : decode cX13_returned 20 = .ok (.iconst (-1), 1) := by decide +kernel
theorem dd216_21 : decode cX13_returned 21 = .ok (.if_icmp .eq 18, 3) := by decide +kernel
theorem dd216_24 : decode cX13_returned 24 = .ok (.aload_n 0, 1) := by decide +kernel
theorem dd216_25 : decode cX13_returned 25 = .ok (.iload_n 1, 1) := by decide +kernel
theorem dd216_26 : decode cX13_returned 26 = .ok (.aload_n 0, 1) := by decide +kernel
theorem dd216_27 : decode cX13_returned 27 = .ok (.getfield 20, 3) := by decide +kernel
theorem dd216_30 : decode cX13_returned 30 = .ok (.getfield 441, 3) := by decide +kernel
theorem dd216_33 : decode cX13_returned 33 = .ok (.iload_n 3, 1) := by decide +kernel
theorem dd216_34 : decode cX13_returned 34 = .ok (.iaload, 1) := by decide +kernel
theorem dd216_35 : decode cX13_returned 35 = .ok (.iload_n 2, 1) := by decide +kernel
theorem dd216_36 : decode cX13_returned 36 = .ok (.invokevirtual 603, 3) := by decide +kernel
theorem dd216_39 : decode cX13_returned 39 = .ok (.aload_n 0, 1) := by decide +kernel
theorem dd216_40 : decode cX13_returned 40 = .ok (.getfield 127, 3) := by decide +kernel
theorem dd216_43 : decode cX13_returned 43 = .ok (.aload_n 0, 1) := by decide +kernel
theorem dd216_44 : decode cX13_returned 44 = .ok (.iload_n 1, 1) := by decide +kernel
theorem dd216_45 : decode cX13_returned 45 = .ok (.invokevirtual 591, 3) := by decide +kernel
theorem dd216_48 : decode cX13_returned 48 = .ok (.aload_n 0, 1) := by decide +kernel
theorem dd216_49 : decode cX13_returned 49 = .ok (.getfield 20, 3) := by decide +kernel
theorem dd216_52 : decode cX13_returned 52 = .ok (.getfield 362, 3) := by decide +kernel
theorem dd216_55 : decode cX13_returned 55 = .ok (.iload_n 3, 1) := by decide +kernel
theorem dd216_56 : decode cX13_returned 56 = .ok (.iaload, 1) := by decide +kernel
theorem dd216_57 : decode cX13_returned 57 = .ok (.iastore, 1) := by decide +kernel
theorem dd216_58 : decode cX13_returned 58 = .ok (.return_, 1) := by decide +kernel
def f216_39 (n : Nat) (x1 : Int32) (x3 : Int32) (s : zσ) : Option zσ :=
    yb1 (f214 n x1 s) fun v2 u1 =>
    zrd 12 (u1.2.2 1132 11) fun a3 =>
    if zin? x3 200 = true then
    if zin? v2 1120 = true then
    zlet (sI u1 1237 (nx v2) (u1.1 (a3 + 16) (nx x3))) fun u4 =>
    some u4
    else none
    else none
set_option maxRecDepth 20000 in
theorem f216_39_ok {n d : Nat} {x1 : Int32} {x3 : Int32} {s : zσ} {s2 : zσ} (hd : 3 ≤ d) (h : f216_39 n x1 x3 s = some s2) {w : zσ} {fz : Bool} {L : Nat} {xs : Nat → Int32} : zGo (zX fz L xs) d q_216 (39, [(0, .ref 1132), (1, .int x1), (3, .int x3)], [], zmk w s, 0, 0) (none, zmk w s2, 0, 0) := by
  obtain ⟨d, rfl⟩ : ∃ d0, d = d0 + 1 := ⟨d - 1, by omega⟩
  unfold f216_39 at h
  refine zGo_s (pc' := 40) (st' := [.ref 1132]) dd216_39 rfl ?_
  refine mGF (e := 1237) dd216_40 rfl rfl rfl rfl rfl ?_
  refine zGo_s (pc' := 44) (st' := [.ref 1132, .ref 1237]) dd216_43 rfl ?_
  refine zGo_s (pc' := 45) (st' := [.int x1, .ref 1132, .ref 1237]) dd216_44 rfl ?_
  obtain ⟨v2, u1, hq, h⟩ := obnd h
  refine zCV1 (As := [.int x1]) (rest := [.ref 1237]) (b := 1132) (q' := q_214) dd216_45 rfl rfl (rcv_m rfl rfl (by decide)) rfl rfl rfl (f214_ok (d := d) (by omega)  hq) ?_
  refine zGo_s (pc' := 49) (st' := [.ref 1132, .int v2, .ref 1237]) dd216_48 rfl ?_
  obtain ⟨a3, e_a3, c_a3, h⟩ := ordd h
  refine mGR dd216_49 rfl rfl rfl rfl e_a3 ?_
  refine mGF (e := (a3 + 16)) dd216_52 rfl (ck12_s c_a3).1 (ck12_s c_a3).2 rfl (cf12_18 c_a3).1 ?_
  refine zGo_s (pc' := 56) (st' := [.int x3, .ref (a3 + 16), .int v2, .ref 1237]) dd216_55 rfl ?_
  obtain ⟨hi, h⟩ := ochk h
  refine mIA dd216_56 (cf12_18 c_a3).2.1 (cf12_18 c_a3).2.2 hi ?_
  obtain ⟨hi, h⟩ := ochk h
  obtain ⟨u4, e_u4, h⟩ := olet h
  refine mIS dd216_57 rfl rfl hi e_u4 ?_
  obtain rfl := ore0 h
  exact zGo_ret dd216_58 rfl rfl
def f216 (n : Nat) (x1 : Int32) (x2 : Int32) (s : zσ) : Option zσ :=
    yb1 (f214 n x1 s) fun v2 u1 =>
    if zin? v2 1120 = true then
    zlet ((u1.1 1237 (nx v2))) fun v3 =>
    zrd 12 (u1.2.2 1132 11) fun a4 =>
    if zin? v3 200 = true then
    if (u1.1 (a4 + 17) (nx v3)) = (-1 : Int32) then
    f216_39 n x1 v3 u1
    else zrd 12 (u1.2.2 1132 11) fun a5 =>
    if zin? v3 200 = true then
    yb0 (f217 n x1 (u1.1 (a5 + 17) (nx v3)) x2 u1) fun u6 =>
    f216_39 n x1 v3 u6
    else none
    else none
    else none
set_option maxRecDepth 20000 in
theorem f216_ok {n d : Nat} {x1 : Int32} {x2 : Int32} {s : zσ} {s2 : zσ} (hd : 3 ≤ d) (h : f216 n x1 x2 s = some s2) {w : zσ} {fz : Bool} {L : Nat} {xs : Nat → Int32} : zGo (zX fz L xs) d q_216 (0, [(0, .ref 1132), (1, .int x1), (2, .int x2)], [], zmk w s, 0, 0) (none, zmk w s2, 0, 0) := by
  obtain ⟨d, rfl⟩ : ∃ d0, d = d0 + 1 := ⟨d - 1, by omega⟩
  unfold f216 at h
  refine zGo_s (pc' := 1) (st' := [.ref 1132]) dd216_0 rfl ?_
  refine mGF (e := 1237) dd216_1 rfl rfl rfl rfl rfl ?_
  refine zGo_s (pc' := 5) (st' := [.ref 1132, .ref 1237]) dd216_4 rfl ?_
  refine zGo_s (pc' := 6) (st' := [.int x1, .ref 1132, .ref 1237]) dd216_5 rfl ?_
  obtain ⟨v2, u1, hq, h⟩ := obnd h
  refine zCV1 (As := [.int x1]) (rest := [.ref 1237]) (b := 1132) (q' := q_214) dd216_6 rfl rfl (rcv_m rfl rfl (by decide)) rfl rfl rfl (f214_ok (d := d) (by omega)  hq) ?_
  obtain ⟨hi, h⟩ := ochk h
  refine mIA dd216_9 rfl rfl hi ?_
  obtain ⟨v3, e_v3, h⟩ := olet h
  refine zGo_is1 e_v3 dd216_10 (x' := (11, [(3, .int v3), (0, .ref 1132), (1, .int x1), (2, .int x2)], [], _, _, _)) rfl ?_
  refine zGo_s (pc' := 12) (st' := [.ref 1132]) dd216_11 rfl ?_
  obtain ⟨a4, e_a4, c_a4, h⟩ := ordd h
  refine mGR dd216_12 rfl rfl rfl rfl e_a4 ?_
  refine mGF (e := (a4 + 17)) dd216_15 rfl (ck12_s c_a4).1 (ck12_s c_a4).2 rfl (cf12_19 c_a4).1 ?_
  refine zGo_s (pc' := 19) (st' := [.int v3, .ref (a4 + 17)]) dd216_18 rfl ?_
  obtain ⟨hi, h⟩ := ochk h
  refine mIA dd216_19 (cf12_19 c_a4).2.1 (cf12_19 c_a4).2.2 hi ?_
  refine zGo_s (pc' := 21) (st' := [.int (-1 : Int32), .int (u1.1 (a4 + 17) (nx v3))]) dd216_20 rfl ?_
  rcases oite h with ⟨hc, h⟩ | ⟨hc, h⟩
  · refine zIT dd216_21 rfl (kEqT hc) ?_
    exact zGo_lv (lv := [(0, .ref 1132), (1, .int x1), (3, .int v3)]) ⟨by simp, by simp, by simp⟩ (f216_39_ok hd h)
  · refine zIF dd216_21 (kEqF hc) ?_
    refine zGo_s (pc' := 25) (st' := [.ref 1132]) dd216_24 rfl ?_
    refine zGo_s (pc' := 26) (st' := [.int x1, .ref 1132]) dd216_25 rfl ?_
    refine zGo_s (pc' := 27) (st' := [.ref 1132, .int x1, .ref 1132]) dd216_26 rfl ?_
    obtain ⟨a5, e_a5, c_a5, h⟩ := ordd h
    refine mGR dd216_27 rfl rfl rfl rfl e_a5 ?_
    refine mGF (e := (a5 + 17)) dd216_30 rfl (ck12_s c_a5).1 (ck12_s c_a5).2 rfl (cf12_19 c_a5).1 ?_
    refine zGo_s (pc' := 34) (st' := [.int v3, .ref (a5 + 17), .int x1, .ref 1132]) dd216_33 rfl ?_
    obtain ⟨hi, h⟩ := ochk h
    refine mIA dd216_34 (cf12_19 c_a5).2.1 (cf12_19 c_a5).2.2 hi ?_
    refine zGo_s (pc' := 36) (st' := [.int x2, .int (u1.1 (a5 + 17) (nx v3)), .int x1, .ref 1132]) dd216_35 rfl ?_
    obtain ⟨u6, hq, h⟩ := obn0 h
    refine zCV0 (As := [.int x1, .int (u1.1 (a5 + 17) (nx v3)), .int x2]) (rest := []) (b := 1132) (q' := q_217) dd216_36 rfl rfl (rcv_m rfl rfl (by decide)) rfl rfl rfl (f217_ok (d := d) (by omega)  hq) ?_
    exact zGo_lv (lv := [(0, .ref 1132), (1, .int x1), (3, .int v3)]) ⟨by simp, by simp, by simp⟩ (f216_39_ok hd h)
/-! PHModel.settle(I)V -/
theorem dd213_0 : decode cX13_settle 0 = .ok (.aload_n 0, 1) := by decide +kernel
theorem dd213_1 : decode cX13_settle 1 = .ok (.getfield 121, 3) := by decide +kernel
theorem dd213_4 : decode cX13_settle 4 = .ok (.iload_n 1, 1) := by decide +kernel
theorem dd213_5 : decode cX13_settle 5 = .ok (.iaload, 1) := by decide +kernel
theorem dd213_6 : decode cX13_settle 6 = .ok (.ifCond .le 97, 3) := by decide +kernel
theorem dd213_9 : decode cX13_settle 9 = .ok (.aload_n 0, 1) := by decide +kernel
theorem dd213_10 : decode cX13_settle 10 = .ok (.getfield 127, 3) := by decide +kernel
theorem dd213_13 : decode cX13_settle 13 = .ok (.aload_n 0, 1) := by decide +kernel
theorem dd213_14 : decode cX13_settle 14 = .ok (.iload_n 1, 1) := by decide +kernel
theorem dd213_15 : decode cX13_settle 15 = .ok (.invokevirtual 591, 3) := by decide +kernel
theorem dd213_18 : decode cX13_settle 18 = .ok (.iaload, 1) := by decide +kernel
theorem dd213_19 : decode cX13_settle 19 = .ok (.iconst (-1), 1) := by decide +kernel
theorem dd213_20 : decode cX13_settle 20 = .ok (.if_icmp .ne 83, 3) := by decide +kernel
theorem dd213_23 : decode cX13_settle 23 = .ok (.aload_n 0, 1) := by decide +kernel
theorem dd213_24 : decode cX13_settle 24 = .ok (.iload_n 1, 1) := by decide +kernel
theorem dd213_25 : decode cX13_settle 25 = .ok (.invokevirtual 594, 3) := by decide +kernel
theorem dd213_28 : decode cX13_settle 28 = .ok (.ifCond .eq 12, 3) := by decide +kernel
theorem dd213_31 : decode cX13_settle 31 = .ok (.aload_n 0, 1) := by decide +kernel
theorem dd213_32 : decode cX13_settle 32 = .ok (.iload_n 1, 1) := by decide +kernel
theorem dd213_33 : decode cX13_settle 33 = .ok (.iconst 0, 1) := by decide +kernel
theorem dd213_34 : decode cX13_settle 34 = .ok (.invokevirtual 597, 3) := by decide +kernel
theorem dd213_37 : decode cX13_settle 37 = .ok (.goto (-37), 3) := by decide +kernel
theorem dd213_40 : decode cX13_settle 40 = .ok (.aload_n 0, 1) := by decide +kernel
theorem dd213_41 : decode cX13_settle 41 = .ok (.getfield 121, 3) := by decide +kernel
theorem dd213_44 : decode cX13_settle 44 = .ok (.iload_n 1, 1) := by decide +kernel
theorem dd213_45 : decode cX13_settle 45 = .ok (.iaload, 1) := by decide +kernel
theorem dd213_46 : decode cX13_settle 46 = .ok (.ifCond .le (-46), 3) := by decide +kernel
theorem dd213_49 : decode cX13_settle 49 = .ok (.aload_n 0, 1) := by decide +kernel
theorem dd213_50 : decode cX13_settle 50 = .ok (.getfield 20, 3) := by decide +kernel
theorem dd213_53 : decode cX13_settle 53 = .ok (.getfield 459, 3) := by decide +kernel
theorem dd213_56 : decode cX13_settle 56 = .ok (.aload_n 0, 1) := by decide +kernel
theorem dd213_57 : decode cX13_settle 57 = .ok (.getfield 127, 3) := by decide +kernel
theorem dd213_60 : decode cX13_settle 60 = .ok (.aload_n 0, 1) := by decide +kernel
theorem dd213_61 : decode cX13_settle 61 = .ok (.iload_n 1, 1) := by decide +kernel
theorem dd213_62 : decode cX13_settle 62 = .ok (.invokevirtual 591, 3) := by decide +kernel
theorem dd213_65 : decode cX13_settle 65 = .ok (.iaload, 1) := by decide +kernel
theorem dd213_66 : decode cX13_settle 66 = .ok (.iaload, 1) := by decide +kernel
theorem dd213_67 : decode cX13_settle 67 = .ok (.bipush 6, 2) := by decide +kernel
theorem dd213_69 : decode cX13_settle 69 = .ok (.if_icmp .eq (-69), 3) := by decide +kernel
theorem dd213_72 : decode cX13_settle 72 = .ok (.aload_n 0, 1) := by decide +kernel
theorem dd213_73 : decode cX13_settle 73 = .ok (.getfield 127, 3) := by decide +kernel
theorem dd213_76 : decode cX13_settle 76 = .ok (.aload_n 0, 1) := by decide +kernel
theorem dd213_77 : decode cX13_settle 77 = .ok (.iload_n 1, 1) := by decide +kernel
theorem dd213_78 : decode cX13_settle 78 = .ok (.invokevirtual 591, 3) := by decide +kernel
theorem dd213_81 : decode cX13_settle 81 = .ok (.aload_n 0, 1) := by decide +kernel
theorem dd213_82 : decode cX13_settle 82 = .ok (.getfield 20, 3) := by decide +kernel
theorem dd213_85 : decode cX13_settle 85 = .ok (.getfield 362, 3) := by decide +kernel
theorem dd213_88 : decode cX13_settle 88 = .ok (.aload_n 0, 1) := by decide +kernel
theorem dd213_89 : decode cX13_settle 89 = .ok (.getfield 127, 3) := by decide +kernel
theorem dd213_92 : decode cX13_settle 92 = .ok (.aload_n 0, 1) := by decide +kernel
theorem dd213_93 : decode cX13_settle 93 = .ok (.iload_n 1, 1) := by decide +kernel
theorem dd213_94 : decode cX13_settle 94 = .ok (.invokevirtual 591, 3) := by decide +kernel
theorem dd213_97 : decode cX13_settle 97 = .ok (.iaload, 1) := by decide +kernel
theorem dd213_98 : decode cX13_settle 98 = .ok (.iaload, 1) := by decide +kernel
theorem dd213_99 : decode cX13_settle 99 = .ok (.iastore, 1) := by decide +kernel
theorem dd213_100 : decode cX13_settle 100 = .ok (.goto (-100), 3) := by decide +kernel
theorem dd213_103 : decode cX13_settle 103 = .ok (.aload_n 0, 1) := by decide +kernel
theorem dd213_104 : decode cX13_settle 104 = .ok (.getfield 121, 3) := by decide +kernel
theorem dd213_107 : decode cX13_settle 107 = .ok (.iload_n 1, 1) := by decide +kernel
theorem dd213_108 : decode cX13_settle 108 = .ok (.iaload, 1) := by decide +kernel
theorem dd213_109 : decode cX13_settle 109 = .ok (.ifCond .ne 17, 3) := by decide +kernel
theorem dd213_112 : decode cX13_settle 112 = .ok (.aload_n 0, 1) := by decide +kernel
theorem dd213_113 : decode cX13_settle 113 = .ok (.getfield 91, 3) := by decide +kernel
theorem dd213_116 : decode cX13_settle 116 = .ok (.iload_n 1, 1) := by decide +kernel
theorem dd213_117 : decode cX13_settle 117 = .ok (.iaload, 1) := by decide +kernel
theorem dd213_118 : decode cX13_settle 118 = .ok (.ifCond .eq 8, 3) := by decide +kernel
theorem dd213_121 : decode cX13_settle 121 = .ok (.aload_n 0, 1) := by decide +kernel
theorem dd213_122 : decode cX13_settle 122 = .ok (.iload_n 1, 1) := by decide +kernel
theorem dd213_123 : decode cX13_settle 123 = .ok (.invokevirtual 600, 3) := by decide +kernel
theorem dd213_126 : decode cX13_settle 126 = .ok (.return_, 1) := by decide +kernel
def f213_103 (n : Nat) (g : Int32 → zσ → Option zσ) (x1 : Int32) (s : zσ) : Option zσ :=
    if zin? x1 8 = true then
    if (s.1 1235 (nx x1)) = (0 : Int32) then
    if zin? x1 8 = true then
    if (s.1 1225 (nx x1)) = (0 : Int32) then
    some s
    else yb0 (g x1 s) fun u1 =>
    some u1
    else none
    else some s
    else none
set_option maxRecDepth 20000 in
theorem f213_103_ok {n d : Nat} {Df : Nat} {g : Int32 → zσ → Option zσ} {x1 : Int32} {s : zσ} {s2 : zσ} (hd : Df + 1 ≤ d ∧ 3 ≤ Df) (hg : ∀ (x1 : Int32) (s : zσ) (s2 : zσ), g x1 s = some s2 → ∀ {d : Nat}, Df ≤ d → ∀ {w : zσ} {fz : Bool} {L : Nat} {xs : Nat → Int32}, zGo (zX fz L xs) d q_219 (0, [(0, .ref 1132), (1, .int x1)], [], zmk w s, 0, 0) (none, zmk w s2, 0, 0)) (h : f213_103 n g x1 s = some s2) {w : zσ} {fz : Bool} {L : Nat} {xs : Nat → Int32} : zGo (zX fz L xs) d q_213 (103, [(0, .ref 1132), (1, .int x1)], [], zmk w s, 0, 0) (none, zmk w s2, 0, 0) := by
  obtain ⟨d, rfl⟩ : ∃ d0, d = d0 + 1 := ⟨d - 1, by omega⟩
  unfold f213_103 at h
  refine zGo_s (pc' := 104) (st' := [.ref 1132]) dd213_103 rfl ?_
  refine mGF (e := 1235) dd213_104 rfl rfl rfl rfl rfl ?_
  refine zGo_s (pc' := 108) (st' := [.int x1, .ref 1235]) dd213_107 rfl ?_
  obtain ⟨hi, h⟩ := ochk h
  refine mIA dd213_108 rfl rfl hi ?_
  rcases oite h with ⟨hc, h⟩ | ⟨hc, h⟩
  · refine zUF dd213_109 (kNeF hc) ?_
    refine zGo_s (pc' := 113) (st' := [.ref 1132]) dd213_112 rfl ?_
    refine mGF (e := 1225) dd213_113 rfl rfl rfl rfl rfl ?_
    refine zGo_s (pc' := 117) (st' := [.int x1, .ref 1225]) dd213_116 rfl ?_
    obtain ⟨hi, h⟩ := ochk h
    refine mIA dd213_117 rfl rfl hi ?_
    rcases oite h with ⟨hc, h⟩ | ⟨hc, h⟩
    · refine zUT dd213_118 rfl (kEqT hc) ?_
      obtain rfl := ore0 h
      exact zGo_ret dd213_126 rfl rfl
    · refine zUF dd213_118 (kEqF hc) ?_
      refine zGo_s (pc' := 122) (st' := [.ref 1132]) dd213_121 rfl ?_
      refine zGo_s (pc' := 123) (st' := [.int x1, .ref 1132]) dd213_122 rfl ?_
      obtain ⟨u1, hq, h⟩ := obn0 h
      refine zCV0 (As := [.int x1]) (rest := []) (b := 1132) (q' := q_219) dd213_123 rfl rfl (rcv_m rfl rfl (by decide)) rfl rfl rfl (hg _ _ _  hq (by omega)) ?_
      obtain rfl := ore0 h
      exact zGo_ret dd213_126 rfl rfl
  · refine zUT dd213_109 rfl (kNeT hc) ?_
    obtain rfl := ore0 h
    exact zGo_ret dd213_126 rfl rfl
def f213_0 (n : Nat) (g : Int32 → zσ → Option zσ) : Nat → Int32 → zσ → Option zσ
  | 0, _, _ => none
  | j + 1, x1, s =>
    if zin? x1 8 = true then
    if (0 : Int32) < (s.1 1235 (nx x1)) then
    yb1 (f214 n x1 s) fun v2 u1 =>
    if zin? v2 1120 = true then
    if (u1.1 1237 (nx v2)) = (-1 : Int32) then
    yb1 (f215 n x1 u1) fun v4 u3 =>
    if v4 = (0 : Int32) then
    if zin? x1 8 = true then
    if (0 : Int32) < (u3.1 1235 (nx x1)) then
    zrd 12 (u3.2.2 1132 11) fun a5 =>
    yb1 (f214 n x1 u3) fun v7 u6 =>
    if zin? v7 1120 = true then
    if zin? (u6.1 1237 (nx v7)) 200 = true then
    if (u6.1 (a5 + 15) (nx (u6.1 1237 (nx v7)))) = (6 : Int32) then
    f213_0 n g j x1 u6
    else yb1 (f214 n x1 u6) fun v9 u8 =>
    zrd 12 (u8.2.2 1132 11) fun a10 =>
    yb1 (f214 n x1 u8) fun v12 u11 =>
    if zin? v12 1120 = true then
    if zin? (u11.1 1237 (nx v12)) 200 = true then
    if zin? v9 1120 = true then
    zlet (sI u11 1237 (nx v9) (u11.1 (a10 + 16) (nx (u11.1 1237 (nx v12))))) fun u13 =>
    f213_0 n g j x1 u13
    else none
    else none
    else none
    else none
    else none
    else f213_0 n g j x1 u3
    else none
    else yb0 (f216 n x1 (0 : Int32) u3) fun u14 =>
    f213_0 n g j x1 u14
    else f213_103 n g x1 u1
    else none
    else f213_103 n g x1 s
    else none
set_option maxRecDepth 20000 in
theorem f213_0_ok {n d : Nat} {Df : Nat} {g : Int32 → zσ → Option zσ} (hd : Df + 1 ≤ d ∧ 3 ≤ Df) (hg : ∀ (x1 : Int32) (s : zσ) (s2 : zσ), g x1 s = some s2 → ∀ {d : Nat}, Df ≤ d → ∀ {w : zσ} {fz : Bool} {L : Nat} {xs : Nat → Int32}, zGo (zX fz L xs) d q_219 (0, [(0, .ref 1132), (1, .int x1)], [], zmk w s, 0, 0) (none, zmk w s2, 0, 0)) : ∀ (j : Nat) (x1 : Int32) (s : zσ) (s2 : zσ), f213_0 n g j x1 s = some s2 → ∀ {w : zσ} {fz : Bool} {L : Nat} {xs : Nat → Int32}, zGo (zX fz L xs) d q_213 (0, [(0, .ref 1132), (1, .int x1)], [], zmk w s, 0, 0) (none, zmk w s2, 0, 0) := by
  obtain ⟨d, rfl⟩ : ∃ d0, d = d0 + 1 := ⟨d - 1, by omega⟩
  intro j
  induction j with
  | zero => intro x1 s s2 h; cases h
  | succ j ih =>
    intro x1 s s2 h w fz L xs
    rw [f213_0] at h
    refine zGo_s (pc' := 1) (st' := [.ref 1132]) dd213_0 rfl ?_
    refine mGF (e := 1235) dd213_1 rfl rfl rfl rfl rfl ?_
    refine zGo_s (pc' := 5) (st' := [.int x1, .ref 1235]) dd213_4 rfl ?_
    obtain ⟨hi, h⟩ := ochk h
    refine mIA dd213_5 rfl rfl hi ?_
    rcases oite h with ⟨hc, h⟩ | ⟨hc, h⟩
    · refine zUF dd213_6 (kLeF hc) ?_
      refine zGo_s (pc' := 10) (st' := [.ref 1132]) dd213_9 rfl ?_
      refine mGF (e := 1237) dd213_10 rfl rfl rfl rfl rfl ?_
      refine zGo_s (pc' := 14) (st' := [.ref 1132, .ref 1237]) dd213_13 rfl ?_
      refine zGo_s (pc' := 15) (st' := [.int x1, .ref 1132, .ref 1237]) dd213_14 rfl ?_
      obtain ⟨v2, u1, hq, h⟩ := obnd h
      refine zCV1 (As := [.int x1]) (rest := [.ref 1237]) (b := 1132) (q' := q_214) dd213_15 rfl rfl (rcv_m rfl rfl (by decide)) rfl rfl rfl (f214_ok (d := d) (by omega)  hq) ?_
      obtain ⟨hi, h⟩ := ochk h
      refine mIA dd213_18 rfl rfl hi ?_
      refine zGo_s (pc' := 20) (st' := [.int (-1 : Int32), .int (u1.1 1237 (nx v2))]) dd213_19 rfl ?_
      rcases oite h with ⟨hc, h⟩ | ⟨hc, h⟩
      · refine zIF dd213_20 (kNeF hc) ?_
        refine zGo_s (pc' := 24) (st' := [.ref 1132]) dd213_23 rfl ?_
        refine zGo_s (pc' := 25) (st' := [.int x1, .ref 1132]) dd213_24 rfl ?_
        obtain ⟨v4, u3, hq, h⟩ := obnd h
        refine zCV1 (As := [.int x1]) (rest := []) (b := 1132) (q' := q_215) dd213_25 rfl rfl (rcv_m rfl rfl (by decide)) rfl rfl rfl (f215_ok (d := d) (by omega)  hq) ?_
        rcases oite h with ⟨hc, h⟩ | ⟨hc, h⟩
        · refine zUT dd213_28 rfl (kEqT hc) ?_
          refine zGo_s (pc' := 41) (st' := [.ref 1132]) dd213_40 rfl ?_
          refine mGF (e := 1235) dd213_41 rfl rfl rfl rfl rfl ?_
          refine zGo_s (pc' := 45) (st' := [.int x1, .ref 1235]) dd213_44 rfl ?_
          obtain ⟨hi, h⟩ := ochk h
          refine mIA dd213_45 rfl rfl hi ?_
          rcases oite h with ⟨hc, h⟩ | ⟨hc, h⟩
          · refine zUF dd213_46 (kLeF hc) ?_
            refine zGo_s (pc' := 50) (st' := [.ref 1132]) dd213_49 rfl ?_
            obtain ⟨a5, e_a5, c_a5, h⟩ := ordd h
            refine mGR dd213_50 rfl rfl rfl rfl e_a5 ?_
            refine mGF (e := (a5 + 15)) dd213_53 rfl (ck12_s c_a5).1 (ck12_s c_a5).2 rfl (cf12_17 c_a5).1 ?_
            refine zGo_s (pc' := 57) (st' := [.ref 1132, .ref (a5 + 15)]) dd213_56 rfl ?_
            refine mGF (e := 1237) dd213_57 rfl rfl rfl rfl rfl ?_
            refine zGo_s (pc' := 61) (st' := [.ref 1132, .ref 1237, .ref (a5 + 15)]) dd213_60 rfl ?_
            refine zGo_s (pc' := 62) (st' := [.int x1, .ref 1132, .ref 1237, .ref (a5 + 15)]) dd213_61 rfl ?_
            obtain ⟨v7, u6, hq, h⟩ := obnd h
            refine zCV1 (As := [.int x1]) (rest := [.ref 1237, .ref (a5 + 15)]) (b := 1132) (q' := q_214) dd213_62 rfl rfl (rcv_m rfl rfl (by decide)) rfl rfl rfl (f214_ok (d := d) (by omega)  hq) ?_
            obtain ⟨hi, h⟩ := ochk h
            refine mIA dd213_65 rfl rfl hi ?_
            obtain ⟨hi, h⟩ := ochk h
            refine mIA dd213_66 (cf12_17 c_a5).2.1 (cf12_17 c_a5).2.2 hi ?_
            refine zGo_s (pc' := 69) (st' := [.int (6 : Int32), .int (u6.1 (a5 + 15) (nx (u6.1 1237 (nx v7))))]) dd213_67 rfl ?_
            rcases oite h with ⟨hc, h⟩ | ⟨hc, h⟩
            · refine zIT dd213_69 rfl (kEqT hc) ?_
              exact ih _ _ _ h
            · refine zIF dd213_69 (kEqF hc) ?_
              refine zGo_s (pc' := 73) (st' := [.ref 1132]) dd213_72 rfl ?_
              refine mGF (e := 1237) dd213_73 rfl rfl rfl rfl rfl ?_
              refine zGo_s (pc' := 77) (st' := [.ref 1132, .ref 1237]) dd213_76 rfl ?_
              refine zGo_s (pc' := 78) (st' := [.int x1, .ref 1132, .ref 1237]) dd213_77 rfl ?_
              obtain ⟨v9, u8, hq, h⟩ := obnd h
              refine zCV1 (As := [.int x1]) (rest := [.ref 1237]) (b := 1132) (q' := q_214) dd213_78 rfl rfl (rcv_m rfl rfl (by decide)) rfl rfl rfl (f214_ok (d := d) (by omega)  hq) ?_
              refine zGo_s (pc' := 82) (st' := [.ref 1132, .int v9, .ref 1237]) dd213_81 rfl ?_
              obtain ⟨a10, e_a10, c_a10, h⟩ := ordd h
              refine mGR dd213_82 rfl rfl rfl rfl e_a10 ?_
              refine mGF (e := (a10 + 16)) dd213_85 rfl (ck12_s c_a10).1 (ck12_s c_a10).2 rfl (cf12_18 c_a10).1 ?_
              refine zGo_s (pc' := 89) (st' := [.ref 1132, .ref (a10 + 16), .int v9, .ref 1237]) dd213_88 rfl ?_
              refine mGF (e := 1237) dd213_89 rfl rfl rfl rfl rfl ?_
              refine zGo_s (pc' := 93) (st' := [.ref 1132, .ref 1237, .ref (a10 + 16), .int v9, .ref 1237]) dd213_92 rfl ?_
              refine zGo_s (pc' := 94) (st' := [.int x1, .ref 1132, .ref 1237, .ref (a10 + 16), .int v9, .ref 1237]) dd213_93 rfl ?_
              obtain ⟨v12, u11, hq, h⟩ := obnd h
              refine zCV1 (As := [.int x1]) (rest := [.ref 1237, .ref (a10 + 16), .int v9, .ref 1237]) (b := 1132) (q' := q_214) dd213_94 rfl rfl (rcv_m rfl rfl (by decide)) rfl rfl rfl (f214_ok (d := d) (by omega)  hq) ?_
              obtain ⟨hi, h⟩ := ochk h
              refine mIA dd213_97 rfl rfl hi ?_
              obtain ⟨hi, h⟩ := ochk h
              refine mIA dd213_98 (cf12_18 c_a10).2.1 (cf12_18 c_a10).2.2 hi ?_
              obtain ⟨hi, h⟩ := ochk h
              obtain ⟨u13, e_u13, h⟩ := olet h
              refine mIS dd213_99 rfl rfl hi e_u13 ?_
              refine zGo_s (pc' := 0) (st' := []) dd213_100 rfl ?_
              exact ih _ _ _ h
          · refine zUT dd213_46 rfl (kLeT hc) ?_
            exact ih _ _ _ h
        · refine zUF dd213_28 (kEqF hc) ?_
          refine zGo_s (pc' := 32) (st' := [.ref 1132]) dd213_31 rfl ?_
          refine zGo_s (pc' := 33) (st' := [.int x1, .ref 1132]) dd213_32 rfl ?_
          refine zGo_s (pc' := 34) (st' := [.int (0 : Int32), .int x1, .ref 1132]) dd213_33 rfl ?_
          obtain ⟨u14, hq, h⟩ := obn0 h
          refine zCV0 (As := [.int x1, .int (0 : Int32)]) (rest := []) (b := 1132) (q' := q_216) dd213_34 rfl rfl (rcv_m rfl rfl (by decide)) rfl rfl rfl (f216_ok (d := d) (by omega)  hq) ?_
          refine zGo_s (pc' := 0) (st' := []) dd213_37 rfl ?_
          exact ih _ _ _ h
      · refine zIT dd213_20 rfl (kNeT hc) ?_
        exact f213_103_ok hd hg h
    · refine zUT dd213_6 rfl (kLeT hc) ?_
      exact f213_103_ok hd hg h
def f213 (n : Nat) (g : Int32 → zσ → Option zσ) (x1 : Int32) (s : zσ) : Option zσ :=
    f213_0 n g n x1 s
set_option maxRecDepth 20000 in
theorem f213_ok {n d : Nat} {Df : Nat} {g : Int32 → zσ → Option zσ} {x1 : Int32} {s : zσ} {s2 : zσ} (hd : Df + 1 ≤ d ∧ 3 ≤ Df) (hg : ∀ (x1 : Int32) (s : zσ) (s2 : zσ), g x1 s = some s2 → ∀ {d : Nat}, Df ≤ d → ∀ {w : zσ} {fz : Bool} {L : Nat} {xs : Nat → Int32}, zGo (zX fz L xs) d q_219 (0, [(0, .ref 1132), (1, .int x1)], [], zmk w s, 0, 0) (none, zmk w s2, 0, 0)) (h : f213 n g x1 s = some s2) {w : zσ} {fz : Bool} {L : Nat} {xs : Nat → Int32} : zGo (zX fz L xs) d q_213 (0, [(0, .ref 1132), (1, .int x1)], [], zmk w s, 0, 0) (none, zmk w s2, 0, 0) := by
  obtain ⟨d, rfl⟩ : ∃ d0, d = d0 + 1 := ⟨d - 1, by omega⟩
  unfold f213 at h
  exact f213_0_ok hd hg _ _ _ _ h
/-! PHModel.begins(I)V -/
theorem dd211_0 : decode cX13_begins 0 = .ok (.aload_n 0, 1) := by decide +kernel
theorem dd211_1 : decode cX13_begins 1 = .ok (.getfield 91, 3) := by decide +kernel
theorem dd211_4 : decode cX13_begins 4 = .ok (.iload_n 1, 1) := by decide +kernel
theorem dd211_5 : decode cX13_begins 5 = .ok (.iconst 1, 1) := by decide +kernel
theorem dd211_6 : decode cX13_begins 6 = .ok (.iastore, 1) := by decide +kernel
theorem dd211_7 : decode cX13_begins 7 = .ok (.aload_n 0, 1) := by decide +kernel
theorem dd211_8 : decode cX13_begins 8 = .ok (.getfield 94, 3) := by decide +kernel
theorem dd211_11 : decode cX13_begins 11 = .ok (.iload_n 1, 1) := by decide +kernel
theorem dd211_12 : decode cX13_begins 12 = .ok (.aload_n 0, 1) := by decide +kernel
theorem dd211_13 : decode cX13_begins 13 = .ok (.getfield 20, 3) := by decide +kernel
theorem dd211_16 : decode cX13_begins 16 = .ok (.getfield 533, 3) := by decide +kernel
theorem dd211_19 : decode cX13_begins 19 = .ok (.iload_n 1, 1) := by decide +kernel
theorem dd211_20 : decode cX13_begins 20 = .ok (.iaload, 1) := by decide +kernel
theorem dd211_21 : decode cX13_begins 21 = .ok (.iastore, 1) := by decide +kernel
theorem dd211_22 : decode cX13_begins 22 = .ok (.aload_n 0, 1) := by decide +kernel
theorem dd211_23 : decode cX13_begins 23 = .ok (.getfield 97, 3) := by decide +kernel
theorem dd211_26 : decode cX13_begins 26 = .ok (.iload_n 1, 1) := by decide +kernel
theorem dd211_27 : decode cX13_begins 27 = .ok (.aload_n 0, 1) := by decide +kernel
theorem dd211_28 : decode cX13_begins 28 = .ok (.getfield 610, 3) := by decide +kernel
theorem dd211_31 : decode cX13_begins 31 = .ok (.iastore, 1) := by decide +kernel
theorem dd211_32 : decode cX13_begins 32 = .ok (.aload_n 0, 1) := by decide +kernel
theorem dd211_33 : decode cX13_begins 33 = .ok (.dup, 1) := by decide +kernel
theorem dd211_34 : decode cX13_begins 34 = .ok (.getfield 610, 3) := by decide +kernel
theorem dd211_37 : decode cX13_begins 37 = .ok (.iconst 1, 1) := by decide +kernel
theorem dd211_38 : decode cX13_begins 38 = .ok (.iadd, 1) := by decide +kernel
theorem dd211_39 : decode cX13_begins 39 = .ok (.putfield 610, 3) := by decide +kernel
theorem dd211_42 : decode cX13_begins 42 = .ok (.aload_n 0, 1) := by decide +kernel
theorem dd211_43 : decode cX13_begins 43 = .ok (.getfield 109, 3) := by decide +kernel
theorem dd211_46 : decode cX13_begins 46 = .ok (.iload_n 1, 1) := by decide +kernel
theorem dd211_47 : decode cX13_begins 47 = .ok (.dup2, 1) := by decide +kernel
theorem dd211_48 : decode cX13_begins 48 = .ok (.iaload, 1) := by decide +kernel
theorem dd211_49 : decode cX13_begins 49 = .ok (.iconst 1, 1) := by decide +kernel
theorem dd211_50 : decode cX13_begins 50 = .ok (.iadd, 1) := by decide +kernel
theorem dd211_51 : decode cX13_begins 51 = .ok (.iastore, 1) := by decide +kernel
theorem dd211_52 : decode cX13_begins 52 = .ok (.aload_n 0, 1) := by decide +kernel
theorem dd211_53 : decode cX13_begins 53 = .ok (.iload_n 1, 1) := by decide +kernel
theorem dd211_54 : decode cX13_begins 54 = .ok (.aload_n 0, 1) := by decide +kernel
theorem dd211_55 : decode cX13_begins 55 = .ok (.getfield 20, 3) := by decide +kernel
theorem dd211_58 : decode cX13_begins 58 = .ok (.getfield 539, 3) := by decide +kernel
theorem dd211_61 : decode cX13_begins 61 = .ok (.iload_n 1, 1) := by decide +kernel
theorem dd211_62 : decode cX13_begins 62 = .ok (.iaload, 1) := by decide +kernel
theorem dd211_63 : decode cX13_begins 63 = .ok (.iconst 0, 1) := by decide +kernel
theorem dd211_64 : decode cX13_begins 64 = .ok (.invokevirtual 613, 3) := by decide +kernel
theorem dd211_67 : decode cX13_begins 67 = .ok (.aload_n 0, 1) := by decide +kernel
theorem dd211_68 : decode cX13_begins 68 = .ok (.iload_n 1, 1) := by decide +kernel
theorem dd211_69 : decode cX13_begins 69 = .ok (.invokevirtual 607, 3) := by decide +kernel
theorem dd211_72 : decode cX13_begins 72 = .ok (.return_, 1) := by decide +kernel
def f211 (n : Nat) (g : Int32 → zσ → Option zσ) (x1 : Int32) (s : zσ) : Option zσ :=
    if zin? x1 8 = true then
    zlet (sI s 1225 (nx x1) (1 : Int32)) fun u1 =>
    zrd 12 (u1.2.2 1132 11) fun a2 =>
    if zin? x1 8 = true then
    if zin? x1 8 = true then
    zlet (sI u1 1226 (nx x1) (u1.1 (a2 + 8) (nx x1))) fun u3 =>
    if zin? x1 8 = true then
    zlet (sI u3 1227 (nx x1) (u3.1 1132 30)) fun u4 =>
    zlet (sI u4 1132 30 ((u4.1 1132 30) + (1 : Int32))) fun u5 =>
    if zin? x1 8 = true then
    if zin? x1 8 = true then
    zlet (sI u5 1231 (nx x1) ((u5.1 1231 (nx x1)) + (1 : Int32))) fun u6 =>
    zrd 12 (u6.2.2 1132 11) fun a7 =>
    if zin? x1 8 = true then
    yb0 (f212 n x1 (u6.1 (a7 + 7) (nx x1)) (0 : Int32) u6) fun u8 =>
    yb0 (f213 n g x1 u8) fun u9 =>
    some u9
    else none
    else none
    else none
    else none
    else none
    else none
    else none
set_option maxRecDepth 20000 in
theorem f211_ok {n d : Nat} {Df : Nat} {g : Int32 → zσ → Option zσ} {x1 : Int32} {s : zσ} {s2 : zσ} (hd : Df + 2 ≤ d ∧ 3 ≤ Df) (hg : ∀ (x1 : Int32) (s : zσ) (s2 : zσ), g x1 s = some s2 → ∀ {d : Nat}, Df ≤ d → ∀ {w : zσ} {fz : Bool} {L : Nat} {xs : Nat → Int32}, zGo (zX fz L xs) d q_219 (0, [(0, .ref 1132), (1, .int x1)], [], zmk w s, 0, 0) (none, zmk w s2, 0, 0)) (h : f211 n g x1 s = some s2) {w : zσ} {fz : Bool} {L : Nat} {xs : Nat → Int32} : zGo (zX fz L xs) d q_211 (0, [(0, .ref 1132), (1, .int x1)], [], zmk w s, 0, 0) (none, zmk w s2, 0, 0) := by
  obtain ⟨d, rfl⟩ : ∃ d0, d = d0 + 1 := ⟨d - 1, by omega⟩
  unfold f211 at h
  refine zGo_s (pc' := 1) (st' := [.ref 1132]) dd211_0 rfl ?_
  refine mGF (e := 1225) dd211_1 rfl rfl rfl rfl rfl ?_
  refine zGo_s (pc' := 5) (st' := [.int x1, .ref 1225]) dd211_4 rfl ?_
  refine zGo_s (pc' := 6) (st' := [.int (1 : Int32), .int x1, .ref 1225]) dd211_5 rfl ?_
  obtain ⟨hi, h⟩ := ochk h
  obtain ⟨u1, e_u1, h⟩ := olet h
  refine mIS dd211_6 rfl rfl hi e_u1 ?_
  refine zGo_s (pc' := 8) (st' := [.ref 1132]) dd211_7 rfl ?_
  refine mGF (e := 1226) dd211_8 rfl rfl rfl rfl rfl ?_
  refine zGo_s (pc' := 12) (st' := [.int x1, .ref 1226]) dd211_11 rfl ?_
  refine zGo_s (pc' := 13) (st' := [.ref 1132, .int x1, .ref 1226]) dd211_12 rfl ?_
  obtain ⟨a2, e_a2, c_a2, h⟩ := ordd h
  refine mGR dd211_13 rfl rfl rfl rfl e_a2 ?_
  refine mGF (e := (a2 + 8)) dd211_16 rfl (ck12_s c_a2).1 (ck12_s c_a2).2 rfl (cf12_8 c_a2).1 ?_
  refine zGo_s (pc' := 20) (st' := [.int x1, .ref (a2 + 8), .int x1, .ref 1226]) dd211_19 rfl ?_
  obtain ⟨hi, h⟩ := ochk h
  refine mIA dd211_20 (cf12_8 c_a2).2.1 (cf12_8 c_a2).2.2 hi ?_
  obtain ⟨hi, h⟩ := ochk h
  obtain ⟨u3, e_u3, h⟩ := olet h
  refine mIS dd211_21 rfl rfl hi e_u3 ?_
  refine zGo_s (pc' := 23) (st' := [.ref 1132]) dd211_22 rfl ?_
  refine mGF (e := 1227) dd211_23 rfl rfl rfl rfl rfl ?_
  refine zGo_s (pc' := 27) (st' := [.int x1, .ref 1227]) dd211_26 rfl ?_
  refine zGo_s (pc' := 28) (st' := [.ref 1132, .int x1, .ref 1227]) dd211_27 rfl ?_
  refine mGI dd211_28 rfl rfl rfl rfl ?_
  obtain ⟨hi, h⟩ := ochk h
  obtain ⟨u4, e_u4, h⟩ := olet h
  refine mIS dd211_31 rfl rfl hi e_u4 ?_
  refine zGo_s (pc' := 33) (st' := [.ref 1132]) dd211_32 rfl ?_
  refine zGo_s (pc' := 34) (st' := [.ref 1132, .ref 1132]) dd211_33 rfl ?_
  refine mGI dd211_34 rfl rfl rfl rfl ?_
  refine zGo_s (pc' := 38) (st' := [.int (1 : Int32), .int (u4.1 1132 30), .ref 1132]) dd211_37 rfl ?_
  refine zGo_s (pc' := 39) (st' := [.int ((u4.1 1132 30) + (1 : Int32)), .ref 1132]) dd211_38 rfl ?_
  obtain ⟨u5, e_u5, h⟩ := olet h
  refine mPI dd211_39 rfl rfl rfl rfl rfl rfl e_u5 ?_
  refine zGo_s (pc' := 43) (st' := [.ref 1132]) dd211_42 rfl ?_
  refine mGF (e := 1231) dd211_43 rfl rfl rfl rfl rfl ?_
  refine zGo_s (pc' := 47) (st' := [.int x1, .ref 1231]) dd211_46 rfl ?_
  refine zGo_s (pc' := 48) (st' := [.int x1, .ref 1231, .int x1, .ref 1231]) dd211_47 rfl ?_
  obtain ⟨hi, h⟩ := ochk h
  refine mIA dd211_48 rfl rfl hi ?_
  refine zGo_s (pc' := 50) (st' := [.int (1 : Int32), .int (u5.1 1231 (nx x1)), .int x1, .ref 1231]) dd211_49 rfl ?_
  refine zGo_s (pc' := 51) (st' := [.int ((u5.1 1231 (nx x1)) + (1 : Int32)), .int x1, .ref 1231]) dd211_50 rfl ?_
  obtain ⟨hi, h⟩ := ochk h
  obtain ⟨u6, e_u6, h⟩ := olet h
  refine mIS dd211_51 rfl rfl hi e_u6 ?_
  refine zGo_s (pc' := 53) (st' := [.ref 1132]) dd211_52 rfl ?_
  refine zGo_s (pc' := 54) (st' := [.int x1, .ref 1132]) dd211_53 rfl ?_
  refine zGo_s (pc' := 55) (st' := [.ref 1132, .int x1, .ref 1132]) dd211_54 rfl ?_
  obtain ⟨a7, e_a7, c_a7, h⟩ := ordd h
  refine mGR dd211_55 rfl rfl rfl rfl e_a7 ?_
  refine mGF (e := (a7 + 7)) dd211_58 rfl (ck12_s c_a7).1 (ck12_s c_a7).2 rfl (cf12_7 c_a7).1 ?_
  refine zGo_s (pc' := 62) (st' := [.int x1, .ref (a7 + 7), .int x1, .ref 1132]) dd211_61 rfl ?_
  obtain ⟨hi, h⟩ := ochk h
  refine mIA dd211_62 (cf12_7 c_a7).2.1 (cf12_7 c_a7).2.2 hi ?_
  refine zGo_s (pc' := 64) (st' := [.int (0 : Int32), .int (u6.1 (a7 + 7) (nx x1)), .int x1, .ref 1132]) dd211_63 rfl ?_
  obtain ⟨u8, hq, h⟩ := obn0 h
  refine zCV0 (As := [.int x1, .int (u6.1 (a7 + 7) (nx x1)), .int (0 : Int32)]) (rest := []) (b := 1132) (q' := q_212) dd211_64 rfl rfl (rcv_m rfl rfl (by decide)) rfl rfl rfl (f212_ok (d := d) (by omega)  hq) ?_
  refine zGo_s (pc' := 68) (st' := [.ref 1132]) dd211_67 rfl ?_
  refine zGo_s (pc' := 69) (st' := [.int x1, .ref 1132]) dd211_68 rfl ?_
  obtain ⟨u9, hq, h⟩ := obn0 h
  refine zCV0 (As := [.int x1]) (rest := []) (b := 1132) (q' := q_213) dd211_69 rfl rfl (rcv_m rfl rfl (by decide)) rfl rfl rfl (f213_ok (d := d) (by omega) hg  hq) ?_
  obtain rfl := ore0 h
  exact zGo_ret dd211_72 rfl rfl
/-! PHModel.ends(I)V -/
theorem dd219_0 : decode cX13_ends 0 = .ok (.aload_n 0, 1) := by decide +kernel
theorem dd219_1 : decode cX13_ends 1 = .ok (.getfield 121, 3) := by decide +kernel
theorem dd219_4 : decode cX13_ends 4 = .ok (.iload_n 1, 1) := by decide +kernel
theorem dd219_5 : decode cX13_ends 5 = .ok (.iaload, 1) := by decide +kernel
theorem dd219_6 : decode cX13_ends 6 = .ok (.ifCond .le 12, 3) := by decide +kernel
theorem dd219_9 : decode cX13_ends 9 = .ok (.aload_n 0, 1) := by decide +kernel
theorem dd219_10 : decode cX13_ends 10 = .ok (.iload_n 1, 1) := by decide +kernel
theorem dd219_11 : decode cX13_ends 11 = .ok (.invokevirtual 594, 3) := by decide +kernel
theorem dd219_14 : decode cX13_ends 14 = .ok (.pop, 1) := by decide +kernel
theorem dd219_15 : decode cX13_ends 15 = .ok (.goto (-15), 3) := by decide +kernel
theorem dd219_18 : decode cX13_ends 18 = .ok (.aload_n 0, 1) := by decide +kernel
theorem dd219_19 : decode cX13_ends 19 = .ok (.getfield 91, 3) := by decide +kernel
theorem dd219_22 : decode cX13_ends 22 = .ok (.iload_n 1, 1) := by decide +kernel
theorem dd219_23 : decode cX13_ends 23 = .ok (.iconst 0, 1) := by decide +kernel
theorem dd219_24 : decode cX13_ends 24 = .ok (.iastore, 1) := by decide +kernel
theorem dd219_25 : decode cX13_ends 25 = .ok (.aload_n 0, 1) := by decide +kernel
theorem dd219_26 : decode cX13_ends 26 = .ok (.getfield 94, 3) := by decide +kernel
theorem dd219_29 : decode cX13_ends 29 = .ok (.iload_n 1, 1) := by decide +kernel
theorem dd219_30 : decode cX13_ends 30 = .ok (.iconst 0, 1) := by decide +kernel
theorem dd219_31 : decode cX13_ends 31 = .ok (.iastore, 1) := by decide +kernel
theorem dd219_32 : decode cX13_ends 32 = .ok (.aload_n 0, 1) := by decide +kernel
theorem dd219_33 : decode cX13_ends 33 = .ok (.getfield 112, 3) := by decide +kernel
theorem dd219_36 : decode cX13_ends 36 = .ok (.iload_n 1, 1) := by decide +kernel
theorem dd219_37 : decode cX13_ends 37 = .ok (.dup2, 1) := by decide +kernel
theorem dd219_38 : decode cX13_ends 38 = .ok (.iaload, 1) := by decide +kernel
theorem dd219_39 : decode cX13_ends 39 = .ok (.iconst 1, 1) := by decide +kernel
theorem dd219_40 : decode cX13_ends 40 = .ok (.iadd, 1) := by decide +kernel
theorem dd219_41 : decode cX13_ends 41 = .ok (.iastore, 1) := by decide +kernel
theorem dd219_42 : decode cX13_ends 42 = .ok (.aload_n 0, 1) := by decide +kernel
theorem dd219_43 : decode cX13_ends 43 = .ok (.getfield 136, 3) := by decide +kernel
theorem dd219_46 : decode cX13_ends 46 = .ok (.iconst 2, 1) := by decide +kernel
theorem dd219_47 : decode cX13_ends 47 = .ok (.iload_n 1, 1) := by decide +kernel
theorem dd219_48 : decode cX13_ends 48 = .ok (.imul, 1) := by decide +kernel
theorem dd219_49 : decode cX13_ends 49 = .ok (.iconst 1, 1) := by decide +kernel
theorem dd219_50 : decode cX13_ends 50 = .ok (.iadd, 1) := by decide +kernel
theorem dd219_51 : decode cX13_ends 51 = .ok (.iconst 0, 1) := by decide +kernel
theorem dd219_52 : decode cX13_ends 52 = .ok (.bastore, 1) := by decide +kernel
theorem dd219_53 : decode cX13_ends 53 = .ok (.aload_n 0, 1) := by decide +kernel
theorem dd219_54 : decode cX13_ends 54 = .ok (.getfield 103, 3) := by decide +kernel
theorem dd219_57 : decode cX13_ends 57 = .ok (.iload_n 1, 1) := by decide +kernel
theorem dd219_58 : decode cX13_ends 58 = .ok (.iaload, 1) := by decide +kernel
theorem dd219_59 : decode cX13_ends 59 = .ok (.ifCond .le 18, 3) := by decide +kernel
theorem dd219_62 : decode cX13_ends 62 = .ok (.aload_n 0, 1) := by decide +kernel
theorem dd219_63 : decode cX13_ends 63 = .ok (.getfield 103, 3) := by decide +kernel
theorem dd219_66 : decode cX13_ends 66 = .ok (.iload_n 1, 1) := by decide +kernel
theorem dd219_67 : decode cX13_ends 67 = .ok (.dup2, 1) := by decide +kernel
theorem dd219_68 : decode cX13_ends 68 = .ok (.iaload, 1) := by decide +kernel
theorem dd219_69 : decode cX13_ends 69 = .ok (.iconst 1, 1) := by decide +kernel
theorem dd219_70 : decode cX13_ends 70 = .ok (.isub, 1) := by decide +kernel
theorem dd219_71 : decode cX13_ends 71 = .ok (.iastore, 1) := by decide +kernel
theorem dd219_72 : decode cX13_ends 72 = .ok (.aload_n 0, 1) := by decide +kernel
theorem dd219_73 : decode cX13_ends 73 = .ok (.iload_n 1, 1) := by decide +kernel
theorem dd219_74 : decode cX13_ends 74 = .ok (.invokevirtual 617, 3) := by decide +kernel
theorem dd219_77 : decode cX13_ends 77 = .ok (.return_, 1) := by decide +kernel
def f219_0 (n : Nat) (g : Int32 → zσ → Option zσ) : Nat → Int32 → zσ → Option zσ
  | 0, _, _ => none
  | j + 1, x1, s =>
    if zin? x1 8 = true then
    if (0 : Int32) < (s.1 1235 (nx x1)) then
    yb1 (f215 n x1 s) fun v8 u7 =>
    f219_0 n g j x1 u7
    else if zin? x1 8 = true then
    zlet (sI s 1225 (nx x1) (0 : Int32)) fun u1 =>
    if zin? x1 8 = true then
    zlet (sI u1 1226 (nx x1) (0 : Int32)) fun u2 =>
    if zin? x1 8 = true then
    if zin? x1 8 = true then
    zlet (sI u2 1232 (nx x1) ((u2.1 1232 (nx x1)) + (1 : Int32))) fun u3 =>
    if zin? (((2 : Int32) * x1) + (1 : Int32)) 16 = true then
    zlet (sI u3 1240 (nx (((2 : Int32) * x1) + (1 : Int32))) (vp_nar .boolean (0 : Int32))) fun u4 =>
    if zin? x1 8 = true then
    if (0 : Int32) < (u4.1 1229 (nx x1)) then
    if zin? x1 8 = true then
    if zin? x1 8 = true then
    zlet (sI u4 1229 (nx x1) ((u4.1 1229 (nx x1)) - (1 : Int32))) fun u5 =>
    yb0 (f211 n g x1 u5) fun u6 =>
    some u6
    else none
    else none
    else some u4
    else none
    else none
    else none
    else none
    else none
    else none
    else none
set_option maxRecDepth 20000 in
theorem f219_0_ok {n d : Nat} {Df : Nat} {g : Int32 → zσ → Option zσ} (hd : Df + 3 ≤ d ∧ 3 ≤ Df) (hg : ∀ (x1 : Int32) (s : zσ) (s2 : zσ), g x1 s = some s2 → ∀ {d : Nat}, Df ≤ d → ∀ {w : zσ} {fz : Bool} {L : Nat} {xs : Nat → Int32}, zGo (zX fz L xs) d q_219 (0, [(0, .ref 1132), (1, .int x1)], [], zmk w s, 0, 0) (none, zmk w s2, 0, 0)) : ∀ (j : Nat) (x1 : Int32) (s : zσ) (s2 : zσ), f219_0 n g j x1 s = some s2 → ∀ {w : zσ} {fz : Bool} {L : Nat} {xs : Nat → Int32}, zGo (zX fz L xs) d q_219 (0, [(0, .ref 1132), (1, .int x1)], [], zmk w s, 0, 0) (none, zmk w s2, 0, 0) := by
  obtain ⟨d, rfl⟩ : ∃ d0, d = d0 + 1 := ⟨d - 1, by omega⟩
  intro j
  induction j with
  | zero => intro x1 s s2 h; cases h
  | succ j ih =>
    intro x1 s s2 h w fz L xs
    rw [f219_0] at h
    refine zGo_s (pc' := 1) (st' := [.ref 1132]) dd219_0 rfl ?_
    refine mGF (e := 1235) dd219_1 rfl rfl rfl rfl rfl ?_
    refine zGo_s (pc' := 5) (st' := [.int x1, .ref 1235]) dd219_4 rfl ?_
    obtain ⟨hi, h⟩ := ochk h
    refine mIA dd219_5 rfl rfl hi ?_
    rcases oite h with ⟨hc, h⟩ | ⟨hc, h⟩
    · refine zUF dd219_6 (kLeF hc) ?_
      refine zGo_s (pc' := 10) (st' := [.ref 1132]) dd219_9 rfl ?_
      refine zGo_s (pc' := 11) (st' := [.int x1, .ref 1132]) dd219_10 rfl ?_
      obtain ⟨v8, u7, hq, h⟩ := obnd h
      refine zCV1 (As := [.int x1]) (rest := []) (b := 1132) (q' := q_215) dd219_11 rfl rfl (rcv_m rfl rfl (by decide)) rfl rfl rfl (f215_ok (d := d) (by omega)  hq) ?_
      refine zGo_s (pc' := 15) (st' := []) dd219_14 rfl ?_
      refine zGo_s (pc' := 0) (st' := []) dd219_15 rfl ?_
      exact ih _ _ _ h
    · refine zUT dd219_6 rfl (kLeT hc) ?_
      refine zGo_s (pc' := 19) (st' := [.ref 1132]) dd219_18 rfl ?_
      refine mGF (e := 1225) dd219_19 rfl rfl rfl rfl rfl ?_
      refine zGo_s (pc' := 23) (st' := [.int x1, .ref 1225]) dd219_22 rfl ?_
      refine zGo_s (pc' := 24) (st' := [.int (0 : Int32), .int x1, .ref 1225]) dd219_23 rfl ?_
      obtain ⟨hi, h⟩ := ochk h
      obtain ⟨u1, e_u1, h⟩ := olet h
      refine mIS dd219_24 rfl rfl hi e_u1 ?_
      refine zGo_s (pc' := 26) (st' := [.ref 1132]) dd219_25 rfl ?_
      refine mGF (e := 1226) dd219_26 rfl rfl rfl rfl rfl ?_
      refine zGo_s (pc' := 30) (st' := [.int x1, .ref 1226]) dd219_29 rfl ?_
      refine zGo_s (pc' := 31) (st' := [.int (0 : Int32), .int x1, .ref 1226]) dd219_30 rfl ?_
      obtain ⟨hi, h⟩ := ochk h
      obtain ⟨u2, e_u2, h⟩ := olet h
      refine mIS dd219_31 rfl rfl hi e_u2 ?_
      refine zGo_s (pc' := 33) (st' := [.ref 1132]) dd219_32 rfl ?_
      refine mGF (e := 1232) dd219_33 rfl rfl rfl rfl rfl ?_
      refine zGo_s (pc' := 37) (st' := [.int x1, .ref 1232]) dd219_36 rfl ?_
      refine zGo_s (pc' := 38) (st' := [.int x1, .ref 1232, .int x1, .ref 1232]) dd219_37 rfl ?_
      obtain ⟨hi, h⟩ := ochk h
      refine mIA dd219_38 rfl rfl hi ?_
      refine zGo_s (pc' := 40) (st' := [.int (1 : Int32), .int (u2.1 1232 (nx x1)), .int x1, .ref 1232]) dd219_39 rfl ?_
      refine zGo_s (pc' := 41) (st' := [.int ((u2.1 1232 (nx x1)) + (1 : Int32)), .int x1, .ref 1232]) dd219_40 rfl ?_
      obtain ⟨hi, h⟩ := ochk h
      obtain ⟨u3, e_u3, h⟩ := olet h
      refine mIS dd219_41 rfl rfl hi e_u3 ?_
      refine zGo_s (pc' := 43) (st' := [.ref 1132]) dd219_42 rfl ?_
      refine mGF (e := 1240) dd219_43 rfl rfl rfl rfl rfl ?_
      refine zGo_s (pc' := 47) (st' := [.int (2 : Int32), .ref 1240]) dd219_46 rfl ?_
      refine zGo_s (pc' := 48) (st' := [.int x1, .int (2 : Int32), .ref 1240]) dd219_47 rfl ?_
      refine zGo_s (pc' := 49) (st' := [.int ((2 : Int32) * x1), .ref 1240]) dd219_48 rfl ?_
      refine zGo_s (pc' := 50) (st' := [.int (1 : Int32), .int ((2 : Int32) * x1), .ref 1240]) dd219_49 rfl ?_
      refine zGo_s (pc' := 51) (st' := [.int (((2 : Int32) * x1) + (1 : Int32)), .ref 1240]) dd219_50 rfl ?_
      refine zGo_s (pc' := 52) (st' := [.int (0 : Int32), .int (((2 : Int32) * x1) + (1 : Int32)), .ref 1240]) dd219_51 rfl ?_
      obtain ⟨hi, h⟩ := ochk h
      obtain ⟨u4, e_u4, h⟩ := olet h
      refine mBS dd219_52 rfl rfl rfl hi e_u4 ?_
      refine zGo_s (pc' := 54) (st' := [.ref 1132]) dd219_53 rfl ?_
      refine mGF (e := 1229) dd219_54 rfl rfl rfl rfl rfl ?_
      refine zGo_s (pc' := 58) (st' := [.int x1, .ref 1229]) dd219_57 rfl ?_
      obtain ⟨hi, h⟩ := ochk h
      refine mIA dd219_58 rfl rfl hi ?_
      rcases oite h with ⟨hc, h⟩ | ⟨hc, h⟩
      · refine zUF dd219_59 (kLeF hc) ?_
        refine zGo_s (pc' := 63) (st' := [.ref 1132]) dd219_62 rfl ?_
        refine mGF (e := 1229) dd219_63 rfl rfl rfl rfl rfl ?_
        refine zGo_s (pc' := 67) (st' := [.int x1, .ref 1229]) dd219_66 rfl ?_
        refine zGo_s (pc' := 68) (st' := [.int x1, .ref 1229, .int x1, .ref 1229]) dd219_67 rfl ?_
        obtain ⟨hi, h⟩ := ochk h
        refine mIA dd219_68 rfl rfl hi ?_
        refine zGo_s (pc' := 70) (st' := [.int (1 : Int32), .int (u4.1 1229 (nx x1)), .int x1, .ref 1229]) dd219_69 rfl ?_
        refine zGo_s (pc' := 71) (st' := [.int ((u4.1 1229 (nx x1)) - (1 : Int32)), .int x1, .ref 1229]) dd219_70 rfl ?_
        obtain ⟨hi, h⟩ := ochk h
        obtain ⟨u5, e_u5, h⟩ := olet h
        refine mIS dd219_71 rfl rfl hi e_u5 ?_
        refine zGo_s (pc' := 73) (st' := [.ref 1132]) dd219_72 rfl ?_
        refine zGo_s (pc' := 74) (st' := [.int x1, .ref 1132]) dd219_73 rfl ?_
        obtain ⟨u6, hq, h⟩ := obn0 h
        refine zCV0 (As := [.int x1]) (rest := []) (b := 1132) (q' := q_211) dd219_74 rfl rfl (rcv_m rfl rfl (by decide)) rfl rfl rfl (f211_ok (d := d) (by omega) hg  hq) ?_
        obtain rfl := ore0 h
        exact zGo_ret dd219_77 rfl rfl
      · refine zUT dd219_59 rfl (kLeT hc) ?_
        obtain rfl := ore0 h
        exact zGo_ret dd219_77 rfl rfl
def f219b (n : Nat) (g : Int32 → zσ → Option zσ) (x1 : Int32) (s : zσ) : Option zσ :=
    f219_0 n g n x1 s
set_option maxRecDepth 20000 in
theorem f219b_ok {n d : Nat} {Df : Nat} {g : Int32 → zσ → Option zσ} {x1 : Int32} {s : zσ} {s2 : zσ} (hd : Df + 3 ≤ d ∧ 3 ≤ Df) (hg : ∀ (x1 : Int32) (s : zσ) (s2 : zσ), g x1 s = some s2 → ∀ {d : Nat}, Df ≤ d → ∀ {w : zσ} {fz : Bool} {L : Nat} {xs : Nat → Int32}, zGo (zX fz L xs) d q_219 (0, [(0, .ref 1132), (1, .int x1)], [], zmk w s, 0, 0) (none, zmk w s2, 0, 0)) (h : f219b n g x1 s = some s2) {w : zσ} {fz : Bool} {L : Nat} {xs : Nat → Int32} : zGo (zX fz L xs) d q_219 (0, [(0, .ref 1132), (1, .int x1)], [], zmk w s, 0, 0) (none, zmk w s2, 0, 0) := by
  obtain ⟨d, rfl⟩ : ∃ d0, d = d0 + 1 := ⟨d - 1, by omega⟩
  unfold f219b at h
  exact f219_0_ok hd hg _ _ _ _ h
def f219 (n : Nat) : Nat → Int32 → zσ → Option zσ
  | 0, _, _ => none
  | k + 1, x1, s => f219b n (f219 n k) x1 s
theorem f219_all {n : Nat} : ∀ (k : Nat) (x1 : Int32) (s : zσ) (s2 : zσ), f219 n k x1 s = some s2 → ∀ {d : Nat}, 3 + 4 * (k + 1) ≤ d → ∀ {w : zσ} {fz : Bool} {L : Nat} {xs : Nat → Int32}, zGo (zX fz L xs) d q_219 (0, [(0, .ref 1132), (1, .int x1)], [], zmk w s, 0, 0) (none, zmk w s2, 0, 0) := by
  intro k
  induction k with
  | zero => intro x1 s s2 h; cases h
  | succ k ih =>
    intro x1 s s2 h d hd w fz L xs
    exact f219b_ok (Df := 3 + 4 * (k + 1)) (by omega) ih h
theorem f219_okk4 {n : Nat} : ∀ (x1 : Int32) (s : zσ) (s2 : zσ), f219 n 4 x1 s = some s2 → ∀ {d : Nat}, 23 ≤ d → ∀ {w : zσ} {fz : Bool} {L : Nat} {xs : Nat → Int32}, zGo (zX fz L xs) d q_219 (0, [(0, .ref 1132), (1, .int x1)], [], zmk w s, 0, 0) (none, zmk w s2, 0, 0) :=
  fun x1 _ _ h _ hd _ _ _ _ => f219_all 4 _ _ _ h (by omega)
/-! PHModel.start(I)V -/
theorem dd210_0 : decode cX13_start 0 = .ok (.aload_n 0, 1) := by decide +kernel
theorem dd210_1 : decode cX13_start 1 = .ok (.getfield 91, 3) := by decide +kernel
theorem dd210_4 : decode cX13_start 4 = .ok (.iload_n 1, 1) := by decide +kernel
theorem dd210_5 : decode cX13_start 5 = .ok (.iaload, 1) := by decide +kernel
theorem dd210_6 : decode cX13_start 6 = .ok (.ifCond .ne 11, 3) := by decide +kernel
theorem dd210_9 : decode cX13_start 9 = .ok (.aload_n 0, 1) := by decide +kernel
theorem dd210_10 : decode cX13_start 10 = .ok (.iload_n 1, 1) := by decide +kernel
theorem dd210_11 : decode cX13_start 11 = .ok (.invokevirtual 617, 3) := by decide +kernel
theorem dd210_14 : decode cX13_start 14 = .ok (.goto 36, 3) := by decide +kernel
theorem dd210_17 : decode cX13_start 17 = .ok (.aload_n 0, 1) := by decide +kernel
theorem dd210_18 : decode cX13_start 18 = .ok (.getfield 103, 3) := by decide +kernel
theorem dd210_21 : decode cX13_start 21 = .ok (.iload_n 1, 1) := by decide +kernel
theorem dd210_22 : decode cX13_start 22 = .ok (.iaload, 1) := by decide +kernel
theorem dd210_23 : decode cX13_start 23 = .ok (.iconst 3, 1) := by decide +kernel
theorem dd210_24 : decode cX13_start 24 = .ok (.if_icmp .ge 16, 3) := by decide +kernel
theorem dd210_27 : decode cX13_start 27 = .ok (.aload_n 0, 1) := by decide +kernel
theorem dd210_28 : decode cX13_start 28 = .ok (.getfield 103, 3) := by decide +kernel
theorem dd210_31 : decode cX13_start 31 = .ok (.iload_n 1, 1) := by decide +kernel
theorem dd210_32 : decode cX13_start 32 = .ok (.dup2, 1) := by decide +kernel
theorem dd210_33 : decode cX13_start 33 = .ok (.iaload, 1) := by decide +kernel
theorem dd210_34 : decode cX13_start 34 = .ok (.iconst 1, 1) := by decide +kernel
theorem dd210_35 : decode cX13_start 35 = .ok (.iadd, 1) := by decide +kernel
theorem dd210_36 : decode cX13_start 36 = .ok (.iastore, 1) := by decide +kernel
theorem dd210_37 : decode cX13_start 37 = .ok (.goto 13, 3) := by decide +kernel
theorem dd210_40 : decode cX13_start 40 = .ok (.aload_n 0, 1) := by decide +kernel
theorem dd210_41 : decode cX13_start 41 = .ok (.getfield 106, 3) := by decide +kernel
theorem dd210_44 : decode cX13_start 44 = .ok (.iload_n 1, 1) := by decide +kernel
theorem dd210_45 : decode cX13_start 45 = .ok (.dup2, 1) := by decide +kernel
theorem dd210_46 : decode cX13_start 46 = .ok (.iaload, 1) := by decide +kernel
theorem dd210_47 : decode cX13_start 47 = .ok (.iconst 1, 1) := by decide +kernel
theorem dd210_48 : decode cX13_start 48 = .ok (.iadd, 1) := by decide +kernel
theorem dd210_49 : decode cX13_start 49 = .ok (.iastore, 1) := by decide +kernel
theorem dd210_50 : decode cX13_start 50 = .ok (.return_, 1) := by decide +kernel
def f210 (n : Nat) (x1 : Int32) (s : zσ) : Option zσ :=
    if zin? x1 8 = true then
    if (s.1 1225 (nx x1)) = (0 : Int32) then
    yb0 (f211 n (f219 n 4) x1 s) fun u3 =>
    some u3
    else if zin? x1 8 = true then
    if (s.1 1229 (nx x1)) < (3 : Int32) then
    if zin? x1 8 = true then
    if zin? x1 8 = true then
    zlet (sI s 1229 (nx x1) ((s.1 1229 (nx x1)) + (1 : Int32))) fun u2 =>
    some u2
    else none
    else none
    else if zin? x1 8 = true then
    if zin? x1 8 = true then
    zlet (sI s 1230 (nx x1) ((s.1 1230 (nx x1)) + (1 : Int32))) fun u1 =>
    some u1
    else none
    else none
    else none
    else none
set_option maxRecDepth 20000 in
theorem f210_ok {n d : Nat} {x1 : Int32} {s : zσ} {s2 : zσ} (hd : 26 ≤ d) (h : f210 n x1 s = some s2) {w : zσ} {fz : Bool} {L : Nat} {xs : Nat → Int32} : zGo (zX fz L xs) d q_210 (0, [(0, .ref 1132), (1, .int x1)], [], zmk w s, 0, 0) (none, zmk w s2, 0, 0) := by
  obtain ⟨d, rfl⟩ : ∃ d0, d = d0 + 1 := ⟨d - 1, by omega⟩
  unfold f210 at h
  refine zGo_s (pc' := 1) (st' := [.ref 1132]) dd210_0 rfl ?_
  refine mGF (e := 1225) dd210_1 rfl rfl rfl rfl rfl ?_
  refine zGo_s (pc' := 5) (st' := [.int x1, .ref 1225]) dd210_4 rfl ?_
  obtain ⟨hi, h⟩ := ochk h
  refine mIA dd210_5 rfl rfl hi ?_
  rcases oite h with ⟨hc, h⟩ | ⟨hc, h⟩
  · refine zUF dd210_6 (kNeF hc) ?_
    refine zGo_s (pc' := 10) (st' := [.ref 1132]) dd210_9 rfl ?_
    refine zGo_s (pc' := 11) (st' := [.int x1, .ref 1132]) dd210_10 rfl ?_
    obtain ⟨u3, hq, h⟩ := obn0 h
    refine zCV0 (As := [.int x1]) (rest := []) (b := 1132) (q' := q_211) dd210_11 rfl rfl (rcv_m rfl rfl (by decide)) rfl rfl rfl (f211_ok (d := d) (Df := 23) (by omega) f219_okk4  hq) ?_
    refine zGo_s (pc' := 50) (st' := []) dd210_14 rfl ?_
    obtain rfl := ore0 h
    exact zGo_ret dd210_50 rfl rfl
  · refine zUT dd210_6 rfl (kNeT hc) ?_
    refine zGo_s (pc' := 18) (st' := [.ref 1132]) dd210_17 rfl ?_
    refine mGF (e := 1229) dd210_18 rfl rfl rfl rfl rfl ?_
    refine zGo_s (pc' := 22) (st' := [.int x1, .ref 1229]) dd210_21 rfl ?_
    obtain ⟨hi, h⟩ := ochk h
    refine mIA dd210_22 rfl rfl hi ?_
    refine zGo_s (pc' := 24) (st' := [.int (3 : Int32), .int (s.1 1229 (nx x1))]) dd210_23 rfl ?_
    rcases oite h with ⟨hc, h⟩ | ⟨hc, h⟩
    · refine zIF dd210_24 (kGeF hc) ?_
      refine zGo_s (pc' := 28) (st' := [.ref 1132]) dd210_27 rfl ?_
      refine mGF (e := 1229) dd210_28 rfl rfl rfl rfl rfl ?_
      refine zGo_s (pc' := 32) (st' := [.int x1, .ref 1229]) dd210_31 rfl ?_
      refine zGo_s (pc' := 33) (st' := [.int x1, .ref 1229, .int x1, .ref 1229]) dd210_32 rfl ?_
      obtain ⟨hi, h⟩ := ochk h
      refine mIA dd210_33 rfl rfl hi ?_
      refine zGo_s (pc' := 35) (st' := [.int (1 : Int32), .int (s.1 1229 (nx x1)), .int x1, .ref 1229]) dd210_34 rfl ?_
      refine zGo_s (pc' := 36) (st' := [.int ((s.1 1229 (nx x1)) + (1 : Int32)), .int x1, .ref 1229]) dd210_35 rfl ?_
      obtain ⟨hi, h⟩ := ochk h
      obtain ⟨u2, e_u2, h⟩ := olet h
      refine mIS dd210_36 rfl rfl hi e_u2 ?_
      refine zGo_s (pc' := 50) (st' := []) dd210_37 rfl ?_
      obtain rfl := ore0 h
      exact zGo_ret dd210_50 rfl rfl
    · refine zIT dd210_24 rfl (kGeT hc) ?_
      refine zGo_s (pc' := 41) (st' := [.ref 1132]) dd210_40 rfl ?_
      refine mGF (e := 1230) dd210_41 rfl rfl rfl rfl rfl ?_
      refine zGo_s (pc' := 45) (st' := [.int x1, .ref 1230]) dd210_44 rfl ?_
      refine zGo_s (pc' := 46) (st' := [.int x1, .ref 1230, .int x1, .ref 1230]) dd210_45 rfl ?_
      obtain ⟨hi, h⟩ := ochk h
      refine mIA dd210_46 rfl rfl hi ?_
      refine zGo_s (pc' := 48) (st' := [.int (1 : Int32), .int (s.1 1230 (nx x1)), .int x1, .ref 1230]) dd210_47 rfl ?_
      refine zGo_s (pc' := 49) (st' := [.int ((s.1 1230 (nx x1)) + (1 : Int32)), .int x1, .ref 1230]) dd210_48 rfl ?_
      obtain ⟨hi, h⟩ := ochk h
      obtain ⟨u1, e_u1, h⟩ := olet h
      refine mIS dd210_49 rfl rfl hi e_u1 ?_
      obtain rfl := ore0 h
      exact zGo_ret dd210_50 rfl rfl
/-! PHModel.ready()I -/
theorem dd220_0 : decode cX13_ready 0 = .ok (.iconst 0, 1) := by decide +kernel
theorem dd220_1 : decode cX13_ready 1 = .ok (.istore_n 1, 1) := by decide +kernel
theorem dd220_2 : decode cX13_ready 2 = .ok (.iconst 0, 1) := by decide +kernel
theorem dd220_3 : decode cX13_ready 3 = .ok (.istore_n 2, 1) := by decide +kernel
theorem dd220_4 : decode cX13_ready 4 = .ok (.iload_n 2, 1) := by decide +kernel
theorem dd220_5 : decode cX13_ready 5 = .ok (.aload_n 0, 1) := by decide +kernel
theorem dd220_6 : decode cX13_ready 6 = .ok (.invokevirtual 583, 3) := by decide +kernel
theorem dd220_9 : decode cX13_ready 9 = .ok (.if_icmp .ge 27, 3) := by decide +kernel
theorem dd220_12 : decode cX13_ready 12 = .ok (.iload_n 1, 1) := by decide +kernel
theorem dd220_13 : decode cX13_ready 13 = .ok (.aload_n 0, 1) := by decide +kernel
theorem dd220_14 : decode cX13_ready 14 = .ok (.getfield 91, 3) := by decide +kernel
theorem dd220_17 : decode cX13_ready 17 = .ok (.iload_n 2, 1) := by decide +kernel
theorem dd220_18 : decode cX13_ready 18 = .ok (.iaload, 1) := by decide +kernel
theorem dd220_19 : decode cX13_ready 19 = .ok (.iconst 1, 1) := by decide +kernel
theorem dd220_20 : decode cX13_ready 20 = .ok (.if_icmp .ne 7, 3) := by decide +kernel
theorem dd220_23 : decode cX13_ready 23 = .ok (.iconst 1, 1) := by decide +kernel
theorem dd220_24 : decode cX13_ready 24 = .ok (.goto 4, 3) := by decide +kernel
theorem dd220_27 : decode cX13_ready 27 = .ok (.iconst 0, 1) := by decide +kernel
theorem dd220_28 : decode cX13_ready 28 = .ok (.iadd, 1) := by decide +kernel
theorem dd220_29 : decode cX13_ready 29 = .ok (.istore_n 1, 1) := by decide +kernel
theorem dd220_30 : decode cX13_ready 30 = .ok (.iinc 2 1, 3) := by decide +kernel
theorem dd220_33 : decode cX13_ready 33 = .ok (.goto (-29), 3) := by decide +kernel
theorem dd220_36 : decode cX13_ready 36 = .ok (.iload_n 1, 1) := by decide +kernel
theorem dd220_37 : decode cX13_ready 37 = .ok (.ireturn, 1) := by decide +kernel
def f220_28 (n : Nat) (r4 : Int32 → Int32 → zσ → Option (Int32 × zσ)) (x2 : Int32) (y0 : Int32) (y1 : Int32) (s : zσ) : Option (Int32 × zσ) :=
    zlet ((y1 + y0)) fun v1 =>
    r4 v1 (x2 + (1 : Int32)) s
set_option maxRecDepth 20000 in
theorem f220_28_ok {n d : Nat} {r4 : Int32 → Int32 → zσ → Option (Int32 × zσ)} {x2 : Int32} {y0 : Int32} {y1 : Int32} {s : zσ} {v : Int32} {s2 : zσ} (hd : 1 ≤ d) (hr4 : ∀ (x1 : Int32) (x2 : Int32) (s : zσ) (v : Int32) (s2 : zσ), r4 x1 x2 s = some (v, s2) → ∀ {w : zσ} {fz : Bool} {L : Nat} {xs : Nat → Int32}, zGo (zX fz L xs) d q_220 (4, [(0, .ref 1132), (1, .int x1), (2, .int x2)], [], zmk w s, 0, 0) (some (.int v), zmk w s2, 0, 0)) (h : f220_28 n r4 x2 y0 y1 s = some (v, s2)) {w : zσ} {fz : Bool} {L : Nat} {xs : Nat → Int32} : zGo (zX fz L xs) d q_220 (28, [(0, .ref 1132), (2, .int x2)], [.int y0, .int y1], zmk w s, 0, 0) (some (.int v), zmk w s2, 0, 0) := by
  obtain ⟨d, rfl⟩ : ∃ d0, d = d0 + 1 := ⟨d - 1, by omega⟩
  unfold f220_28 at h
  refine zGo_s (pc' := 29) (st' := [.int (y1 + y0)]) dd220_28 rfl ?_
  obtain ⟨v1, e_v1, h⟩ := olet h
  refine zGo_is1 e_v1 dd220_29 (x' := (30, [(1, .int v1), (0, .ref 1132), (2, .int x2)], [], _, _, _)) rfl ?_
  refine zGo_s (pc' := 33) (st' := []) (lv' := [(2, .int (x2 + (1 : Int32))), (1, .int v1), (0, .ref 1132)]) dd220_30 rfl ?_
  refine zGo_s (pc' := 4) (st' := []) dd220_33 rfl ?_
  exact zGo_lv (lv := [(0, .ref 1132), (1, .int v1), (2, .int (x2 + (1 : Int32)))]) ⟨by simp, by simp, by simp⟩ (hr4 _ _ _ _ _ h)
def f220_4 (n : Nat) : Nat → Int32 → Int32 → zσ → Option (Int32 × zσ)
  | 0, _, _, _ => none
  | j + 1, x1, x2, s =>
    yb1 (f209 n s) fun v2 u1 =>
    if x2 < v2 then
    if zin? x2 8 = true then
    if (u1.1 1225 (nx x2)) = (1 : Int32) then
    f220_28 n (f220_4 n j) x2 (1 : Int32) x1 u1
    else f220_28 n (f220_4 n j) x2 (0 : Int32) x1 u1
    else none
    else some (x1, u1)
set_option maxRecDepth 20000 in
theorem f220_4_ok {n d : Nat} (hd : 1 ≤ d) : ∀ (j : Nat) (x1 : Int32) (x2 : Int32) (s : zσ) (v : Int32) (s2 : zσ), f220_4 n j x1 x2 s = some (v, s2) → ∀ {w : zσ} {fz : Bool} {L : Nat} {xs : Nat → Int32}, zGo (zX fz L xs) d q_220 (4, [(0, .ref 1132), (1, .int x1), (2, .int x2)], [], zmk w s, 0, 0) (some (.int v), zmk w s2, 0, 0) := by
  obtain ⟨d, rfl⟩ : ∃ d0, d = d0 + 1 := ⟨d - 1, by omega⟩
  intro j
  induction j with
  | zero => intro x1 x2 s v s2 h; cases h
  | succ j ih =>
    intro x1 x2 s v s2 h w fz L xs
    rw [f220_4] at h
    refine zGo_s (pc' := 5) (st' := [.int x2]) dd220_4 rfl ?_
    refine zGo_s (pc' := 6) (st' := [.ref 1132, .int x2]) dd220_5 rfl ?_
    obtain ⟨v2, u1, hq, h⟩ := obnd h
    refine zCV1 (As := []) (rest := [.int x2]) (b := 1132) (q' := q_209) dd220_6 rfl rfl (rcv_m rfl rfl (by decide)) rfl rfl rfl (f209_ok (d := d) (by omega)  hq) ?_
    rcases oite h with ⟨hc, h⟩ | ⟨hc, h⟩
    · refine zIF dd220_9 (kGeF hc) ?_
      refine zGo_s (pc' := 13) (st' := [.int x1]) dd220_12 rfl ?_
      refine zGo_s (pc' := 14) (st' := [.ref 1132, .int x1]) dd220_13 rfl ?_
      refine mGF (e := 1225) dd220_14 rfl rfl rfl rfl rfl ?_
      refine zGo_s (pc' := 18) (st' := [.int x2, .ref 1225, .int x1]) dd220_17 rfl ?_
      obtain ⟨hi, h⟩ := ochk h
      refine mIA dd220_18 rfl rfl hi ?_
      refine zGo_s (pc' := 20) (st' := [.int (1 : Int32), .int (u1.1 1225 (nx x2)), .int x1]) dd220_19 rfl ?_
      rcases oite h with ⟨hc, h⟩ | ⟨hc, h⟩
      · refine zIF dd220_20 (kNeF hc) ?_
        refine zGo_s (pc' := 24) (st' := [.int (1 : Int32), .int x1]) dd220_23 rfl ?_
        refine zGo_s (pc' := 28) (st' := [.int (1 : Int32), .int x1]) dd220_24 rfl ?_
        exact zGo_lv (lv := [(0, .ref 1132), (2, .int x2)]) ⟨by simp, by simp, by simp⟩ (f220_28_ok hd ih h)
      · refine zIT dd220_20 rfl (kNeT hc) ?_
        refine zGo_s (pc' := 28) (st' := [.int (0 : Int32), .int x1]) dd220_27 rfl ?_
        exact zGo_lv (lv := [(0, .ref 1132), (2, .int x2)]) ⟨by simp, by simp, by simp⟩ (f220_28_ok hd ih h)
    · refine zIT dd220_9 rfl (kGeT hc) ?_
      refine zGo_s (pc' := 37) (st' := [.int x1]) dd220_36 rfl ?_
      obtain ⟨rfl, rfl⟩ := oret h
      exact zGo_ret dd220_37 rfl rfl
def f220 (n : Nat) (s : zσ) : Option (Int32 × zσ) :=
    f220_4 n n (0 : Int32) (0 : Int32) s
set_option maxRecDepth 20000 in
theorem f220_ok {n d : Nat} {s : zσ} {v : Int32} {s2 : zσ} (hd : 1 ≤ d) (h : f220 n s = some (v, s2)) {w : zσ} {fz : Bool} {L : Nat} {xs : Nat → Int32} : zGo (zX fz L xs) d q_220 (0, [(0, .ref 1132)], [], zmk w s, 0, 0) (some (.int v), zmk w s2, 0, 0) := by
  obtain ⟨d, rfl⟩ : ∃ d0, d = d0 + 1 := ⟨d - 1, by omega⟩
  unfold f220 at h
  refine zGo_s (pc' := 1) (st' := [.int (0 : Int32)]) dd220_0 rfl ?_
  refine zGo_s (pc' := 2) (st' := []) (lv' := [(1, .int (0 : Int32)), (0, .ref 1132)]) dd220_1 rfl ?_
  refine zGo_s (pc' := 3) (st' := [.int (0 : Int32)]) dd220_2 rfl ?_
  refine zGo_s (pc' := 4) (st' := []) (lv' := [(2, .int (0 : Int32)), (1, .int (0 : Int32)), (0, .ref 1132)]) dd220_3 rfl ?_
  exact zGo_lv (lv := [(0, .ref 1132), (1, .int (0 : Int32)), (2, .int (0 : Int32))]) ⟨by simp, by simp, by simp⟩ (f220_4_ok hd _ _ _ _ _ _ h)
