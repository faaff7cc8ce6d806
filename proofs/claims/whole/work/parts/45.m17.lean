/-! PHModel.term()V -/
theorem dd193_0 : decode cX13_term 0 = .ok (.aload_n 0, 1) := by decide +kernel
theorem dd193_1 : decode cX13_term 1 = .ok (.invokevirtual 320, 3) := by decide +kernel
theorem dd193_4 : decode cX13_term 4 = .ok (.aload_n 0, 1) := by decide +kernel
theorem dd193_5 : decode cX13_term 5 = .ok (.invokevirtual 223, 3) := by decide +kernel
theorem dd193_8 : decode cX13_term 8 = .ok (.ifCond .eq 57, 3) := by decide +kernel
theorem dd193_11 : decode cX13_term 11 = .ok (.aload_n 0, 1) := by decide +kernel
theorem dd193_12 : decode cX13_term 12 = .ok (.bipush 42, 2) := by decide +kernel
theorem dd193_14 : decode cX13_term 14 = .ok (.invokevirtual 227, 3) := by decide +kernel
theorem dd193_17 : decode cX13_term 17 = .ok (.ifCond .ne 21, 3) := by decide +kernel
theorem dd193_20 : decode cX13_term 20 = .ok (.aload_n 0, 1) := by decide +kernel
theorem dd193_21 : decode cX13_term 21 = .ok (.bipush 47, 2) := by decide +kernel
theorem dd193_23 : decode cX13_term 23 = .ok (.invokevirtual 227, 3) := by decide +kernel
theorem dd193_26 : decode cX13_term 26 = .ok (.ifCond .ne 12, 3) := by decide +kernel
theorem dd193_29 : decode cX13_term 29 = .ok (.aload_n 0, 1) := by decide +kernel
theorem dd193_30 : decode cX13_term 30 = .ok (.bipush 37, 2) := by decide +kernel
theorem dd193_32 : decode cX13_term 32 = .ok (.invokevirtual 227, 3) := by decide +kernel
theorem dd193_35 : decode cX13_term 35 = .ok (.ifCond .eq 30, 3) := by decide +kernel
theorem dd193_38 : decode cX13_term 38 = .ok (.aload_n 0, 1) := by decide +kernel
theorem dd193_39 : decode cX13_term 39 = .ok (.getfield 204, 3) := by decide +kernel
theorem dd193_42 : decode cX13_term 42 = .ok (.istore_n 1, 1) := by decide +kernel
theorem dd193_43 : decode cX13_term 43 = .ok (.aload_n 0, 1) := by decide +kernel
theorem dd193_44 : decode cX13_term 44 = .ok (.invokevirtual 312, 3) := by decide +kernel
theorem dd193_47 : decode cX13_term 47 = .ok (.aload_n 0, 1) := by decide +kernel
theorem dd193_48 : decode cX13_term 48 = .ok (.invokevirtual 231, 3) := by decide +kernel
theorem dd193_51 : decode cX13_term 51 = .ok (.aload_n 0, 1) := by decide +kernel
theorem dd193_52 : decode cX13_term 52 = .ok (.invokevirtual 320, 3) := by decide +kernel
theorem dd193_55 : decode cX13_term 55 = .ok (.aload_n 0, 1) := by decide +kernel
theorem dd193_56 : decode cX13_term 56 = .ok (.bipush 7, 2) := by decide +kernel
theorem dd193_58 : decode cX13_term 58 = .ok (.iload_n 1, 1) := by decide +kernel
theorem dd193_59 : decode cX13_term 59 = .ok (.invokevirtual 315, 3) := by decide +kernel
theorem dd193_62 : decode cX13_term 62 = .ok (.goto (-58), 3) := by decide +kernel
theorem dd193_65 : decode cX13_term 65 = .ok (.return_, 1) := by decide +kernel
def f193_38 (n : Nat) (g : zσ → Option zσ) (r4 : zσ → Option zσ) (s : zσ) : Option zσ :=
    zlet ((s.1 1132 8)) fun v1 =>
    yb0 (f195 n s) fun u2 =>
    yb0 (f164 n u2) fun u3 =>
    yb0 (g u3) fun u4 =>
    yb0 (f196 n (7 : Int32) v1 u4) fun u5 =>
    r4 u5
set_option maxRecDepth 20000 in
theorem f193_38_ok {n d : Nat} {Df : Nat} {g : zσ → Option zσ} {r4 : zσ → Option zσ} {s : zσ} {s2 : zσ} (hd : Df + 1 ≤ d ∧ 8 ≤ Df) (hg : ∀ (s : zσ) (s2 : zσ), g s = some s2 → ∀ {d : Nat}, Df ≤ d → ∀ {w : zσ} {fz : Bool} {L : Nat} {xs : Nat → Int32}, zGo (zX fz L xs) d q_194 (0, [(0, .ref 1132)], [], zmk w s, 0, 0) (none, zmk w s2, 0, 0)) (hr4 : ∀ (s : zσ) (s2 : zσ), r4 s = some s2 → ∀ {w : zσ} {fz : Bool} {L : Nat} {xs : Nat → Int32}, zGo (zX fz L xs) d q_193 (4, [(0, .ref 1132)], [], zmk w s, 0, 0) (none, zmk w s2, 0, 0)) (h : f193_38 n g r4 s = some s2) {w : zσ} {fz : Bool} {L : Nat} {xs : Nat → Int32} : zGo (zX fz L xs) d q_193 (38, [(0, .ref 1132)], [], zmk w s, 0, 0) (none, zmk w s2, 0, 0) := by
  obtain ⟨d, rfl⟩ : ∃ d0, d = d0 + 1 := ⟨d - 1, by omega⟩
  unfold f193_38 at h
  refine zGo_s (pc' := 39) (st' := [.ref 1132]) dd193_38 rfl ?_
  refine mGI dd193_39 rfl rfl rfl rfl ?_
  obtain ⟨v1, e_v1, h⟩ := olet h
  refine zGo_is1 e_v1 dd193_42 (x' := (43, [(1, .int v1), (0, .ref 1132)], [], _, _, _)) rfl ?_
  refine zGo_s (pc' := 44) (st' := [.ref 1132]) dd193_43 rfl ?_
  obtain ⟨u2, hq, h⟩ := obn0 h
  refine zCV0 (As := []) (rest := []) (b := 1132) (q' := q_195) dd193_44 rfl rfl (rcv_m rfl rfl (by decide)) rfl rfl rfl (f195_ok (d := d) (by omega)  hq) ?_
  refine zGo_s (pc' := 48) (st' := [.ref 1132]) dd193_47 rfl ?_
  obtain ⟨u3, hq, h⟩ := obn0 h
  refine zCV0 (As := []) (rest := []) (b := 1132) (q' := q_164) dd193_48 rfl rfl (rcv_m rfl rfl (by decide)) rfl rfl rfl (f164_ok (d := d) (by omega)  hq) ?_
  refine zGo_s (pc' := 52) (st' := [.ref 1132]) dd193_51 rfl ?_
  obtain ⟨u4, hq, h⟩ := obn0 h
  refine zCV0 (As := []) (rest := []) (b := 1132) (q' := q_194) dd193_52 rfl rfl (rcv_m rfl rfl (by decide)) rfl rfl rfl (hg _ _  hq (by omega)) ?_
  refine zGo_s (pc' := 56) (st' := [.ref 1132]) dd193_55 rfl ?_
  refine zGo_s (pc' := 58) (st' := [.int (7 : Int32), .ref 1132]) dd193_56 rfl ?_
  refine zGo_s (pc' := 59) (st' := [.int v1, .int (7 : Int32), .ref 1132]) dd193_58 rfl ?_
  obtain ⟨u5, hq, h⟩ := obn0 h
  refine zCV0 (As := [.int (7 : Int32), .int v1]) (rest := []) (b := 1132) (q' := q_196) dd193_59 rfl rfl (rcv_m rfl rfl (by decide)) rfl rfl rfl (f196_ok (d := d) (by omega)  hq) ?_
  refine zGo_s (pc' := 4) (st' := []) dd193_62 rfl ?_
  exact zGo_lv (lv := [(0, .ref 1132)]) ⟨by simp, by simp, by simp⟩ (hr4 _ _ h)
def f193_4 (n : Nat) (g : zσ → Option zσ) : Nat → zσ → Option zσ
  | 0, _ => none
  | j + 1, s =>
    yb1 (f167 n s) fun v2 u1 =>
    if v2 = (0 : Int32) then
    some u1
    else yb1 (f177 n (42 : Int32) u1) fun v4 u3 =>
    if v4 = (0 : Int32) then
    yb1 (f177 n (47 : Int32) u3) fun v6 u5 =>
    if v6 = (0 : Int32) then
    yb1 (f177 n (37 : Int32) u5) fun v8 u7 =>
    if v8 = (0 : Int32) then
    some u7
    else f193_38 n g (f193_4 n g j) u7
    else f193_38 n g (f193_4 n g j) u5
    else f193_38 n g (f193_4 n g j) u3
set_option maxRecDepth 20000 in
theorem f193_4_ok {n d : Nat} {Df : Nat} {g : zσ → Option zσ} (hd : Df + 1 ≤ d ∧ 8 ≤ Df) (hg : ∀ (s : zσ) (s2 : zσ), g s = some s2 → ∀ {d : Nat}, Df ≤ d → ∀ {w : zσ} {fz : Bool} {L : Nat} {xs : Nat → Int32}, zGo (zX fz L xs) d q_194 (0, [(0, .ref 1132)], [], zmk w s, 0, 0) (none, zmk w s2, 0, 0)) : ∀ (j : Nat) (s : zσ) (s2 : zσ), f193_4 n g j s = some s2 → ∀ {w : zσ} {fz : Bool} {L : Nat} {xs : Nat → Int32}, zGo (zX fz L xs) d q_193 (4, [(0, .ref 1132)], [], zmk w s, 0, 0) (none, zmk w s2, 0, 0) := by
  obtain ⟨d, rfl⟩ : ∃ d0, d = d0 + 1 := ⟨d - 1, by omega⟩
  intro j
  induction j with
  | zero => intro s s2 h; cases h
  | succ j ih =>
    intro s s2 h w fz L xs
    rw [f193_4] at h
    refine zGo_s (pc' := 5) (st' := [.ref 1132]) dd193_4 rfl ?_
    obtain ⟨v2, u1, hq, h⟩ := obnd h
    refine zCV1 (As := []) (rest := []) (b := 1132) (q' := q_167) dd193_5 rfl rfl (rcv_m rfl rfl (by decide)) rfl rfl rfl (f167_ok (d := d) (by omega)  hq) ?_
    rcases oite h with ⟨hc, h⟩ | ⟨hc, h⟩
    · refine zUT dd193_8 rfl (kEqT hc) ?_
      obtain rfl := ore0 h
      exact zGo_ret dd193_65 rfl rfl
    · refine zUF dd193_8 (kEqF hc) ?_
      refine zGo_s (pc' := 12) (st' := [.ref 1132]) dd193_11 rfl ?_
      refine zGo_s (pc' := 14) (st' := [.int (42 : Int32), .ref 1132]) dd193_12 rfl ?_
      obtain ⟨v4, u3, hq, h⟩ := obnd h
      refine zCV1 (As := [.int (42 : Int32)]) (rest := []) (b := 1132) (q' := q_177) dd193_14 rfl rfl (rcv_m rfl rfl (by decide)) rfl rfl rfl (f177_ok (d := d) (by omega)  hq) ?_
      rcases oite h with ⟨hc, h⟩ | ⟨hc, h⟩
      · refine zUF dd193_17 (kNeF hc) ?_
        refine zGo_s (pc' := 21) (st' := [.ref 1132]) dd193_20 rfl ?_
        refine zGo_s (pc' := 23) (st' := [.int (47 : Int32), .ref 1132]) dd193_21 rfl ?_
        obtain ⟨v6, u5, hq, h⟩ := obnd h
        refine zCV1 (As := [.int (47 : Int32)]) (rest := []) (b := 1132) (q' := q_177) dd193_23 rfl rfl (rcv_m rfl rfl (by decide)) rfl rfl rfl (f177_ok (d := d) (by omega)  hq) ?_
        rcases oite h with ⟨hc, h⟩ | ⟨hc, h⟩
        · refine zUF dd193_26 (kNeF hc) ?_
          refine zGo_s (pc' := 30) (st' := [.ref 1132]) dd193_29 rfl ?_
          refine zGo_s (pc' := 32) (st' := [.int (37 : Int32), .ref 1132]) dd193_30 rfl ?_
          obtain ⟨v8, u7, hq, h⟩ := obnd h
          refine zCV1 (As := [.int (37 : Int32)]) (rest := []) (b := 1132) (q' := q_177) dd193_32 rfl rfl (rcv_m rfl rfl (by decide)) rfl rfl rfl (f177_ok (d := d) (by omega)  hq) ?_
          rcases oite h with ⟨hc, h⟩ | ⟨hc, h⟩
          · refine zUT dd193_35 rfl (kEqT hc) ?_
            obtain rfl := ore0 h
            exact zGo_ret dd193_65 rfl rfl
          · refine zUF dd193_35 (kEqF hc) ?_
            exact f193_38_ok hd hg ih h
        · refine zUT dd193_26 rfl (kNeT hc) ?_
          exact f193_38_ok hd hg ih h
      · refine zUT dd193_17 rfl (kNeT hc) ?_
        exact f193_38_ok hd hg ih h
def f193 (n : Nat) (g : zσ → Option zσ) (s : zσ) : Option zσ :=
    yb0 (g s) fun u1 =>
    f193_4 n g n u1
set_option maxRecDepth 20000 in
theorem f193_ok {n d : Nat} {Df : Nat} {g : zσ → Option zσ} {s : zσ} {s2 : zσ} (hd : Df + 1 ≤ d ∧ 8 ≤ Df) (hg : ∀ (s : zσ) (s2 : zσ), g s = some s2 → ∀ {d : Nat}, Df ≤ d → ∀ {w : zσ} {fz : Bool} {L : Nat} {xs : Nat → Int32}, zGo (zX fz L xs) d q_194 (0, [(0, .ref 1132)], [], zmk w s, 0, 0) (none, zmk w s2, 0, 0)) (h : f193 n g s = some s2) {w : zσ} {fz : Bool} {L : Nat} {xs : Nat → Int32} : zGo (zX fz L xs) d q_193 (0, [(0, .ref 1132)], [], zmk w s, 0, 0) (none, zmk w s2, 0, 0) := by
  obtain ⟨d, rfl⟩ : ∃ d0, d = d0 + 1 := ⟨d - 1, by omega⟩
  unfold f193 at h
  refine zGo_s (pc' := 1) (st' := [.ref 1132]) dd193_0 rfl ?_
  obtain ⟨u1, hq, h⟩ := obn0 h
  refine zCV0 (As := []) (rest := []) (b := 1132) (q' := q_194) dd193_1 rfl rfl (rcv_m rfl rfl (by decide)) rfl rfl rfl (hg _ _  hq (by omega)) ?_
  exact f193_4_ok hd hg _ _ _ h
/-! PHModel.sum()V -/
theorem dd192_0 : decode cX13_sum 0 = .ok (.aload_n 0, 1) := by decide +kernel
theorem dd192_1 : decode cX13_sum 1 = .ok (.invokevirtual 317, 3) := by decide +kernel
theorem dd192_4 : decode cX13_sum 4 = .ok (.aload_n 0, 1) := by decide +kernel
theorem dd192_5 : decode cX13_sum 5 = .ok (.invokevirtual 223, 3) := by decide +kernel
theorem dd192_8 : decode cX13_sum 8 = .ok (.ifCond .eq 48, 3) := by decide +kernel
theorem dd192_11 : decode cX13_sum 11 = .ok (.aload_n 0, 1) := by decide +kernel
theorem dd192_12 : decode cX13_sum 12 = .ok (.bipush 43, 2) := by decide +kernel
theorem dd192_14 : decode cX13_sum 14 = .ok (.invokevirtual 227, 3) := by decide +kernel
theorem dd192_17 : decode cX13_sum 17 = .ok (.ifCond .ne 12, 3) := by decide +kernel
theorem dd192_20 : decode cX13_sum 20 = .ok (.aload_n 0, 1) := by decide +kernel
theorem dd192_21 : decode cX13_sum 21 = .ok (.bipush 45, 2) := by decide +kernel
theorem dd192_23 : decode cX13_sum 23 = .ok (.invokevirtual 227, 3) := by decide +kernel
theorem dd192_26 : decode cX13_sum 26 = .ok (.ifCond .eq 30, 3) := by decide +kernel
theorem dd192_29 : decode cX13_sum 29 = .ok (.aload_n 0, 1) := by decide +kernel
theorem dd192_30 : decode cX13_sum 30 = .ok (.getfield 204, 3) := by decide +kernel
theorem dd192_33 : decode cX13_sum 33 = .ok (.istore_n 1, 1) := by decide +kernel
theorem dd192_34 : decode cX13_sum 34 = .ok (.aload_n 0, 1) := by decide +kernel
theorem dd192_35 : decode cX13_sum 35 = .ok (.invokevirtual 312, 3) := by decide +kernel
theorem dd192_38 : decode cX13_sum 38 = .ok (.aload_n 0, 1) := by decide +kernel
theorem dd192_39 : decode cX13_sum 39 = .ok (.invokevirtual 231, 3) := by decide +kernel
theorem dd192_42 : decode cX13_sum 42 = .ok (.aload_n 0, 1) := by decide +kernel
theorem dd192_43 : decode cX13_sum 43 = .ok (.invokevirtual 317, 3) := by decide +kernel
theorem dd192_46 : decode cX13_sum 46 = .ok (.aload_n 0, 1) := by decide +kernel
theorem dd192_47 : decode cX13_sum 47 = .ok (.bipush 7, 2) := by decide +kernel
theorem dd192_49 : decode cX13_sum 49 = .ok (.iload_n 1, 1) := by decide +kernel
theorem dd192_50 : decode cX13_sum 50 = .ok (.invokevirtual 315, 3) := by decide +kernel
theorem dd192_53 : decode cX13_sum 53 = .ok (.goto (-49), 3) := by decide +kernel
theorem dd192_56 : decode cX13_sum 56 = .ok (.return_, 1) := by decide +kernel
def f192_29 (n : Nat) (g : zσ → Option zσ) (r4 : zσ → Option zσ) (s : zσ) : Option zσ :=
    zlet ((s.1 1132 8)) fun v1 =>
    yb0 (f195 n s) fun u2 =>
    yb0 (f164 n u2) fun u3 =>
    yb0 (f193 n g u3) fun u4 =>
    yb0 (f196 n (7 : Int32) v1 u4) fun u5 =>
    r4 u5
set_option maxRecDepth 20000 in
theorem f192_29_ok {n d : Nat} {Df : Nat} {g : zσ → Option zσ} {r4 : zσ → Option zσ} {s : zσ} {s2 : zσ} (hd : Df + 2 ≤ d ∧ 8 ≤ Df) (hg : ∀ (s : zσ) (s2 : zσ), g s = some s2 → ∀ {d : Nat}, Df ≤ d → ∀ {w : zσ} {fz : Bool} {L : Nat} {xs : Nat → Int32}, zGo (zX fz L xs) d q_194 (0, [(0, .ref 1132)], [], zmk w s, 0, 0) (none, zmk w s2, 0, 0)) (hr4 : ∀ (s : zσ) (s2 : zσ), r4 s = some s2 → ∀ {w : zσ} {fz : Bool} {L : Nat} {xs : Nat → Int32}, zGo (zX fz L xs) d q_192 (4, [(0, .ref 1132)], [], zmk w s, 0, 0) (none, zmk w s2, 0, 0)) (h : f192_29 n g r4 s = some s2) {w : zσ} {fz : Bool} {L : Nat} {xs : Nat → Int32} : zGo (zX fz L xs) d q_192 (29, [(0, .ref 1132)], [], zmk w s, 0, 0) (none, zmk w s2, 0, 0) := by
  obtain ⟨d, rfl⟩ : ∃ d0, d = d0 + 1 := ⟨d - 1, by omega⟩
  unfold f192_29 at h
  refine zGo_s (pc' := 30) (st' := [.ref 1132]) dd192_29 rfl ?_
  refine mGI dd192_30 rfl rfl rfl rfl ?_
  obtain ⟨v1, e_v1, h⟩ := olet h
  refine zGo_is1 e_v1 dd192_33 (x' := (34, [(1, .int v1), (0, .ref 1132)], [], _, _, _)) rfl ?_
  refine zGo_s (pc' := 35) (st' := [.ref 1132]) dd192_34 rfl ?_
  obtain ⟨u2, hq, h⟩ := obn0 h
  refine zCV0 (As := []) (rest := []) (b := 1132) (q' := q_195) dd192_35 rfl rfl (rcv_m rfl rfl (by decide)) rfl rfl rfl (f195_ok (d := d) (by omega)  hq) ?_
  refine zGo_s (pc' := 39) (st' := [.ref 1132]) dd192_38 rfl ?_
  obtain ⟨u3, hq, h⟩ := obn0 h
  refine zCV0 (As := []) (rest := []) (b := 1132) (q' := q_164) dd192_39 rfl rfl (rcv_m rfl rfl (by decide)) rfl rfl rfl (f164_ok (d := d) (by omega)  hq) ?_
  refine zGo_s (pc' := 43) (st' := [.ref 1132]) dd192_42 rfl ?_
  obtain ⟨u4, hq, h⟩ := obn0 h
  refine zCV0 (As := []) (rest := []) (b := 1132) (q' := q_193) dd192_43 rfl rfl (rcv_m rfl rfl (by decide)) rfl rfl rfl (f193_ok (d := d) (by omega) hg  hq) ?_
  refine zGo_s (pc' := 47) (st' := [.ref 1132]) dd192_46 rfl ?_
  refine zGo_s (pc' := 49) (st' := [.int (7 : Int32), .ref 1132]) dd192_47 rfl ?_
  refine zGo_s (pc' := 50) (st' := [.int v1, .int (7 : Int32), .ref 1132]) dd192_49 rfl ?_
  obtain ⟨u5, hq, h⟩ := obn0 h
  refine zCV0 (As := [.int (7 : Int32), .int v1]) (rest := []) (b := 1132) (q' := q_196) dd192_50 rfl rfl (rcv_m rfl rfl (by decide)) rfl rfl rfl (f196_ok (d := d) (by omega)  hq) ?_
  refine zGo_s (pc' := 4) (st' := []) dd192_53 rfl ?_
  exact zGo_lv (lv := [(0, .ref 1132)]) ⟨by simp, by simp, by simp⟩ (hr4 _ _ h)
def f192_4 (n : Nat) (g : zσ → Option zσ) : Nat → zσ → Option zσ
  | 0, _ => none
  | j + 1, s =>
    yb1 (f167 n s) fun v2 u1 =>
    if v2 = (0 : Int32) then
    some u1
    else yb1 (f177 n (43 : Int32) u1) fun v4 u3 =>
    if v4 = (0 : Int32) then
    yb1 (f177 n (45 : Int32) u3) fun v6 u5 =>
    if v6 = (0 : Int32) then
    some u5
    else f192_29 n g (f192_4 n g j) u5
    else f192_29 n g (f192_4 n g j) u3
set_option maxRecDepth 20000 in
theorem f192_4_ok {n d : Nat} {Df : Nat} {g : zσ → Option zσ} (hd : Df + 2 ≤ d ∧ 8 ≤ Df) (hg : ∀ (s : zσ) (s2 : zσ), g s = some s2 → ∀ {d : Nat}, Df ≤ d → ∀ {w : zσ} {fz : Bool} {L : Nat} {xs : Nat → Int32}, zGo (zX fz L xs) d q_194 (0, [(0, .ref 1132)], [], zmk w s, 0, 0) (none, zmk w s2, 0, 0)) : ∀ (j : Nat) (s : zσ) (s2 : zσ), f192_4 n g j s = some s2 → ∀ {w : zσ} {fz : Bool} {L : Nat} {xs : Nat → Int32}, zGo (zX fz L xs) d q_192 (4, [(0, .ref 1132)], [], zmk w s, 0, 0) (none, zmk w s2, 0, 0) := by
  obtain ⟨d, rfl⟩ : ∃ d0, d = d0 + 1 := ⟨d - 1, by omega⟩
  intro j
  induction j with
  | zero => intro s s2 h; cases h
  | succ j ih =>
    intro s s2 h w fz L xs
    rw [f192_4] at h
    refine zGo_s (pc' := 5) (st' := [.ref 1132]) dd192_4 rfl ?_
    obtain ⟨v2, u1, hq, h⟩ := obnd h
    refine zCV1 (As := []) (rest := []) (b := 1132) (q' := q_167) dd192_5 rfl rfl (rcv_m rfl rfl (by decide)) rfl rfl rfl (f167_ok (d := d) (by omega)  hq) ?_
    rcases oite h with ⟨hc, h⟩ | ⟨hc, h⟩
    · refine zUT dd192_8 rfl (kEqT hc) ?_
      obtain rfl := ore0 h
      exact zGo_ret dd192_56 rfl rfl
    · refine zUF dd192_8 (kEqF hc) ?_
      refine zGo_s (pc' := 12) (st' := [.ref 1132]) dd192_11 rfl ?_
      refine zGo_s (pc' := 14) (st' := [.int (43 : Int32), .ref 1132]) dd192_12 rfl ?_
      obtain ⟨v4, u3, hq, h⟩ := obnd h
      refine zCV1 (As := [.int (43 : Int32)]) (rest := []) (b := 1132) (q' := q_177) dd192_14 rfl rfl (rcv_m rfl rfl (by decide)) rfl rfl rfl (f177_ok (d := d) (by omega)  hq) ?_
      rcases oite h with ⟨hc, h⟩ | ⟨hc, h⟩
      · refine zUF dd192_17 (kNeF hc) ?_
        refine zGo_s (pc' := 21) (st' := [.ref 1132]) dd192_20 rfl ?_
        refine zGo_s (pc' := 23) (st' := [.int (45 : Int32), .ref 1132]) dd192_21 rfl ?_
        obtain ⟨v6, u5, hq, h⟩ := obnd h
        refine zCV1 (As := [.int (45 : Int32)]) (rest := []) (b := 1132) (q' := q_177) dd192_23 rfl rfl (rcv_m rfl rfl (by decide)) rfl rfl rfl (f177_ok (d := d) (by omega)  hq) ?_
        rcases oite h with ⟨hc, h⟩ | ⟨hc, h⟩
        · refine zUT dd192_26 rfl (kEqT hc) ?_
          obtain rfl := ore0 h
          exact zGo_ret dd192_56 rfl rfl
        · refine zUF dd192_26 (kEqF hc) ?_
          exact f192_29_ok hd hg ih h
      · refine zUT dd192_17 rfl (kNeT hc) ?_
        exact f192_29_ok hd hg ih h
def f192 (n : Nat) (g : zσ → Option zσ) (s : zσ) : Option zσ :=
    yb0 (f193 n g s) fun u1 =>
    f192_4 n g n u1
set_option maxRecDepth 20000 in
theorem f192_ok {n d : Nat} {Df : Nat} {g : zσ → Option zσ} {s : zσ} {s2 : zσ} (hd : Df + 2 ≤ d ∧ 8 ≤ Df) (hg : ∀ (s : zσ) (s2 : zσ), g s = some s2 → ∀ {d : Nat}, Df ≤ d → ∀ {w : zσ} {fz : Bool} {L : Nat} {xs : Nat → Int32}, zGo (zX fz L xs) d q_194 (0, [(0, .ref 1132)], [], zmk w s, 0, 0) (none, zmk w s2, 0, 0)) (h : f192 n g s = some s2) {w : zσ} {fz : Bool} {L : Nat} {xs : Nat → Int32} : zGo (zX fz L xs) d q_192 (0, [(0, .ref 1132)], [], zmk w s, 0, 0) (none, zmk w s2, 0, 0) := by
  obtain ⟨d, rfl⟩ : ∃ d0, d = d0 + 1 := ⟨d - 1, by omega⟩
  unfold f192 at h
  refine zGo_s (pc' := 1) (st' := [.ref 1132]) dd192_0 rfl ?_
  obtain ⟨u1, hq, h⟩ := obn0 h
  refine zCV0 (As := []) (rest := []) (b := 1132) (q' := q_193) dd192_1 rfl rfl (rcv_m rfl rfl (by decide)) rfl rfl rfl (f193_ok (d := d) (by omega) hg  hq) ?_
  exact f192_4_ok hd hg _ _ _ h
/-! PHModel.whole()V -/
theorem dd191_0 : decode cX13_whole 0 = .ok (.aload_n 0, 1) := by decide +kernel
theorem dd191_1 : decode cX13_whole 1 = .ok (.invokevirtual 309, 3) := by decide +kernel
theorem dd191_4 : decode cX13_whole 4 = .ok (.aload_n 0, 1) := by decide +kernel
theorem dd191_5 : decode cX13_whole 5 = .ok (.invokevirtual 223, 3) := by decide +kernel
theorem dd191_8 : decode cX13_whole 8 = .ok (.ifCond .eq 54, 3) := by decide +kernel
theorem dd191_11 : decode cX13_whole 11 = .ok (.aload_n 0, 1) := by decide +kernel
theorem dd191_12 : decode cX13_whole 12 = .ok (.bipush 61, 2) := by decide +kernel
theorem dd191_14 : decode cX13_whole 14 = .ok (.invokevirtual 227, 3) := by decide +kernel
theorem dd191_17 : decode cX13_whole 17 = .ok (.ifCond .ne 21, 3) := by decide +kernel
theorem dd191_20 : decode cX13_whole 20 = .ok (.aload_n 0, 1) := by decide +kernel
theorem dd191_21 : decode cX13_whole 21 = .ok (.bipush 60, 2) := by decide +kernel
theorem dd191_23 : decode cX13_whole 23 = .ok (.invokevirtual 227, 3) := by decide +kernel
theorem dd191_26 : decode cX13_whole 26 = .ok (.ifCond .ne 12, 3) := by decide +kernel
theorem dd191_29 : decode cX13_whole 29 = .ok (.aload_n 0, 1) := by decide +kernel
theorem dd191_30 : decode cX13_whole 30 = .ok (.bipush 62, 2) := by decide +kernel
theorem dd191_32 : decode cX13_whole 32 = .ok (.invokevirtual 227, 3) := by decide +kernel
theorem dd191_35 : decode cX13_whole 35 = .ok (.ifCond .eq 27, 3) := by decide +kernel
theorem dd191_38 : decode cX13_whole 38 = .ok (.aload_n 0, 1) := by decide +kernel
theorem dd191_39 : decode cX13_whole 39 = .ok (.getfield 204, 3) := by decide +kernel
theorem dd191_42 : decode cX13_whole 42 = .ok (.istore_n 1, 1) := by decide +kernel
theorem dd191_43 : decode cX13_whole 43 = .ok (.aload_n 0, 1) := by decide +kernel
theorem dd191_44 : decode cX13_whole 44 = .ok (.invokevirtual 312, 3) := by decide +kernel
theorem dd191_47 : decode cX13_whole 47 = .ok (.aload_n 0, 1) := by decide +kernel
theorem dd191_48 : decode cX13_whole 48 = .ok (.invokevirtual 231, 3) := by decide +kernel
theorem dd191_51 : decode cX13_whole 51 = .ok (.aload_n 0, 1) := by decide +kernel
theorem dd191_52 : decode cX13_whole 52 = .ok (.invokevirtual 309, 3) := by decide +kernel
theorem dd191_55 : decode cX13_whole 55 = .ok (.aload_n 0, 1) := by decide +kernel
theorem dd191_56 : decode cX13_whole 56 = .ok (.bipush 7, 2) := by decide +kernel
theorem dd191_58 : decode cX13_whole 58 = .ok (.iload_n 1, 1) := by decide +kernel
theorem dd191_59 : decode cX13_whole 59 = .ok (.invokevirtual 315, 3) := by decide +kernel
theorem dd191_62 : decode cX13_whole 62 = .ok (.return_, 1) := by decide +kernel
def f191_38 (n : Nat) (g : zσ → Option zσ) (s : zσ) : Option zσ :=
    zlet ((s.1 1132 8)) fun v1 =>
    yb0 (f195 n s) fun u2 =>
    yb0 (f164 n u2) fun u3 =>
    yb0 (f192 n g u3) fun u4 =>
    yb0 (f196 n (7 : Int32) v1 u4) fun u5 =>
    some u5
set_option maxRecDepth 20000 in
theorem f191_38_ok {n d : Nat} {Df : Nat} {g : zσ → Option zσ} {s : zσ} {s2 : zσ} (hd : Df + 3 ≤ d ∧ 8 ≤ Df) (hg : ∀ (s : zσ) (s2 : zσ), g s = some s2 → ∀ {d : Nat}, Df ≤ d → ∀ {w : zσ} {fz : Bool} {L : Nat} {xs : Nat → Int32}, zGo (zX fz L xs) d q_194 (0, [(0, .ref 1132)], [], zmk w s, 0, 0) (none, zmk w s2, 0, 0)) (h : f191_38 n g s = some s2) {w : zσ} {fz : Bool} {L : Nat} {xs : Nat → Int32} : zGo (zX fz L xs) d q_191 (38, [(0, .ref 1132)], [], zmk w s, 0, 0) (none, zmk w s2, 0, 0) := by
  obtain ⟨d, rfl⟩ : ∃ d0, d = d0 + 1 := ⟨d - 1, by omega⟩
  unfold f191_38 at h
  refine zGo_s (pc' := 39) (st' := [.ref 1132]) dd191_38 rfl ?_
  refine mGI dd191_39 rfl rfl rfl rfl ?_
  obtain ⟨v1, e_v1, h⟩ := olet h
  refine zGo_is1 e_v1 dd191_42 (x' := (43, [(1, .int v1), (0, .ref 1132)], [], _, _, _)) rfl ?_
  refine zGo_s (pc' := 44) (st' := [.ref 1132]) dd191_43 rfl ?_
  obtain ⟨u2, hq, h⟩ := obn0 h
  refine zCV0 (As := []) (rest := []) (b := 1132) (q' := q_195) dd191_44 rfl rfl (rcv_m rfl rfl (by decide)) rfl rfl rfl (f195_ok (d := d) (by omega)  hq) ?_
  refine zGo_s (pc' := 48) (st' := [.ref 1132]) dd191_47 rfl ?_
  obtain ⟨u3, hq, h⟩ := obn0 h
  refine zCV0 (As := []) (rest := []) (b := 1132) (q' := q_164) dd191_48 rfl rfl (rcv_m rfl rfl (by decide)) rfl rfl rfl (f164_ok (d := d) (by omega)  hq) ?_
  refine zGo_s (pc' := 52) (st' := [.ref 1132]) dd191_51 rfl ?_
  obtain ⟨u4, hq, h⟩ := obn0 h
  refine zCV0 (As := []) (rest := []) (b := 1132) (q' := q_192) dd191_52 rfl rfl (rcv_m rfl rfl (by decide)) rfl rfl rfl (f192_ok (d := d) (by omega) hg  hq) ?_
  refine zGo_s (pc' := 56) (st' := [.ref 1132]) dd191_55 rfl ?_
  refine zGo_s (pc' := 58) (st' := [.int (7 : Int32), .ref 1132]) dd191_56 rfl ?_
  refine zGo_s (pc' := 59) (st' := [.int v1, .int (7 : Int32), .ref 1132]) dd191_58 rfl ?_
  obtain ⟨u5, hq, h⟩ := obn0 h
  refine zCV0 (As := [.int (7 : Int32), .int v1]) (rest := []) (b := 1132) (q' := q_196) dd191_59 rfl rfl (rcv_m rfl rfl (by decide)) rfl rfl rfl (f196_ok (d := d) (by omega)  hq) ?_
  obtain rfl := ore0 h
  exact zGo_ret dd191_62 rfl rfl
def f191 (n : Nat) (g : zσ → Option zσ) (s : zσ) : Option zσ :=
    yb0 (f192 n g s) fun u1 =>
    yb1 (f167 n u1) fun v3 u2 =>
    if v3 = (0 : Int32) then
    some u2
    else yb1 (f177 n (61 : Int32) u2) fun v5 u4 =>
    if v5 = (0 : Int32) then
    yb1 (f177 n (60 : Int32) u4) fun v7 u6 =>
    if v7 = (0 : Int32) then
    yb1 (f177 n (62 : Int32) u6) fun v9 u8 =>
    if v9 = (0 : Int32) then
    some u8
    else f191_38 n g u8
    else f191_38 n g u6
    else f191_38 n g u4
set_option maxRecDepth 20000 in
theorem f191_ok {n d : Nat} {Df : Nat} {g : zσ → Option zσ} {s : zσ} {s2 : zσ} (hd : Df + 3 ≤ d ∧ 8 ≤ Df) (hg : ∀ (s : zσ) (s2 : zσ), g s = some s2 → ∀ {d : Nat}, Df ≤ d → ∀ {w : zσ} {fz : Bool} {L : Nat} {xs : Nat → Int32}, zGo (zX fz L xs) d q_194 (0, [(0, .ref 1132)], [], zmk w s, 0, 0) (none, zmk w s2, 0, 0)) (h : f191 n g s = some s2) {w : zσ} {fz : Bool} {L : Nat} {xs : Nat → Int32} : zGo (zX fz L xs) d q_191 (0, [(0, .ref 1132)], [], zmk w s, 0, 0) (none, zmk w s2, 0, 0) := by
  obtain ⟨d, rfl⟩ : ∃ d0, d = d0 + 1 := ⟨d - 1, by omega⟩
  unfold f191 at h
  refine zGo_s (pc' := 1) (st' := [.ref 1132]) dd191_0 rfl ?_
  obtain ⟨u1, hq, h⟩ := obn0 h
  refine zCV0 (As := []) (rest := []) (b := 1132) (q' := q_192) dd191_1 rfl rfl (rcv_m rfl rfl (by decide)) rfl rfl rfl (f192_ok (d := d) (by omega) hg  hq) ?_
  refine zGo_s (pc' := 5) (st' := [.ref 1132]) dd191_4 rfl ?_
  obtain ⟨v3, u2, hq, h⟩ := obnd h
  refine zCV1 (As := []) (rest := []) (b := 1132) (q' := q_167) dd191_5 rfl rfl (rcv_m rfl rfl (by decide)) rfl rfl rfl (f167_ok (d := d) (by omega)  hq) ?_
  rcases oite h with ⟨hc, h⟩ | ⟨hc, h⟩
  · refine zUT dd191_8 rfl (kEqT hc) ?_
    obtain rfl := ore0 h
    exact zGo_ret dd191_62 rfl rfl
  · refine zUF dd191_8 (kEqF hc) ?_
    refine zGo_s (pc' := 12) (st' := [.ref 1132]) dd191_11 rfl ?_
    refine zGo_s (pc' := 14) (st' := [.int (61 : Int32), .ref 1132]) dd191_12 rfl ?_
    obtain ⟨v5, u4, hq, h⟩ := obnd h
    refine zCV1 (As := [.int (61 : Int32)]) (rest := []) (b := 1132) (q' := q_177) dd191_14 rfl rfl (rcv_m rfl rfl (by decide)) rfl rfl rfl (f177_ok (d := d) (by omega)  hq) ?_
    rcases oite h with ⟨hc, h⟩ | ⟨hc, h⟩
    · refine zUF dd191_17 (kNeF hc) ?_
      refine zGo_s (pc' := 21) (st' := [.ref 1132]) dd191_20 rfl ?_
      refine zGo_s (pc' := 23) (st' := [.int (60 : Int32), .ref 1132]) dd191_21 rfl ?_
      obtain ⟨v7, u6, hq, h⟩ := obnd h
      refine zCV1 (As := [.int (60 : Int32)]) (rest := []) (b := 1132) (q' := q_177) dd191_23 rfl rfl (rcv_m rfl rfl (by decide)) rfl rfl rfl (f177_ok (d := d) (by omega)  hq) ?_
      rcases oite h with ⟨hc, h⟩ | ⟨hc, h⟩
      · refine zUF dd191_26 (kNeF hc) ?_
        refine zGo_s (pc' := 30) (st' := [.ref 1132]) dd191_29 rfl ?_
        refine zGo_s (pc' := 32) (st' := [.int (62 : Int32), .ref 1132]) dd191_30 rfl ?_
        obtain ⟨v9, u8, hq, h⟩ := obnd h
        refine zCV1 (As := [.int (62 : Int32)]) (rest := []) (b := 1132) (q' := q_177) dd191_32 rfl rfl (rcv_m rfl rfl (by decide)) rfl rfl rfl (f177_ok (d := d) (by omega)  hq) ?_
        rcases oite h with ⟨hc, h⟩ | ⟨hc, h⟩
        · refine zUT dd191_35 rfl (kEqT hc) ?_
          obtain rfl := ore0 h
          exact zGo_ret dd191_62 rfl rfl
        · refine zUF dd191_35 (kEqF hc) ?_
          exact f191_38_ok hd hg h
      · refine zUT dd191_26 rfl (kNeT hc) ?_
        exact f191_38_ok hd hg h
    · refine zUT dd191_17 rfl (kNeT hc) ?_
      exact f191_38_ok hd hg h
/-! PHModel.named()V -/
theorem dd197_0 : decode cX13_named 0 = .ok (.aload_n 0, 1) := by decide +kernel
theorem dd197_1 : decode cX13_named 1 = .ok (.bipush 10, 2) := by decide +kernel
theorem dd197_3 : decode cX13_named 3 = .ok (.invokevirtual 333, 3) := by decide +kernel
theorem dd197_6 : decode cX13_named 6 = .ok (.istore_n 1, 1) := by decide +kernel
theorem dd197_7 : decode cX13_named 7 = .ok (.aload_n 0, 1) := by decide +kernel
theorem dd197_8 : decode cX13_named 8 = .ok (.invokevirtual 223, 3) := by decide +kernel
theorem dd197_11 : decode cX13_named 11 = .ok (.ifCond .eq 66, 3) := by decide +kernel
theorem dd197_14 : decode cX13_named 14 = .ok (.aload_n 0, 1) := by decide +kernel
theorem dd197_15 : decode cX13_named 15 = .ok (.bipush 91, 2) := by decide +kernel
theorem dd197_17 : decode cX13_named 17 = .ok (.invokevirtual 227, 3) := by decide +kernel
theorem dd197_20 : decode cX13_named 20 = .ok (.ifCond .eq 57, 3) := by decide +kernel
theorem dd197_23 : decode cX13_named 23 = .ok (.aload_n 0, 1) := by decide +kernel
theorem dd197_24 : decode cX13_named 24 = .ok (.getfield 24, 3) := by decide +kernel
theorem dd197_27 : decode cX13_named 27 = .ok (.getfield 258, 3) := by decide +kernel
theorem dd197_30 : decode cX13_named 30 = .ok (.iload_n 1, 1) := by decide +kernel
theorem dd197_31 : decode cX13_named 31 = .ok (.iconst 1, 1) := by decide +kernel
theorem dd197_32 : decode cX13_named 32 = .ok (.iastore, 1) := by decide +kernel
theorem dd197_33 : decode cX13_named 33 = .ok (.aload_n 0, 1) := by decide +kernel
theorem dd197_34 : decode cX13_named 34 = .ok (.invokevirtual 338, 3) := by decide +kernel
theorem dd197_37 : decode cX13_named 37 = .ok (.aload_n 0, 1) := by decide +kernel
theorem dd197_38 : decode cX13_named 38 = .ok (.invokevirtual 223, 3) := by decide +kernel
theorem dd197_41 : decode cX13_named 41 = .ok (.ifCond .eq 42, 3) := by decide +kernel
theorem dd197_44 : decode cX13_named 44 = .ok (.aload_n 0, 1) := by decide +kernel
theorem dd197_45 : decode cX13_named 45 = .ok (.invokevirtual 231, 3) := by decide +kernel
theorem dd197_48 : decode cX13_named 48 = .ok (.aload_n 0, 1) := by decide +kernel
theorem dd197_49 : decode cX13_named 49 = .ok (.invokevirtual 297, 3) := by decide +kernel
theorem dd197_52 : decode cX13_named 52 = .ok (.aload_n 0, 1) := by decide +kernel
theorem dd197_53 : decode cX13_named 53 = .ok (.bipush 93, 2) := by decide +kernel
theorem dd197_55 : decode cX13_named 55 = .ok (.invokevirtual 341, 3) := by decide +kernel
theorem dd197_58 : decode cX13_named 58 = .ok (.aload_n 0, 1) := by decide +kernel
theorem dd197_59 : decode cX13_named 59 = .ok (.dup, 1) := by decide +kernel
theorem dd197_60 : decode cX13_named 60 = .ok (.getfield 243, 3) := by decide +kernel
theorem dd197_63 : decode cX13_named 63 = .ok (.iconst 1, 1) := by decide +kernel
theorem dd197_64 : decode cX13_named 64 = .ok (.isub, 1) := by decide +kernel
theorem dd197_65 : decode cX13_named 65 = .ok (.putfield 243, 3) := by decide +kernel
theorem dd197_68 : decode cX13_named 68 = .ok (.aload_n 0, 1) := by decide +kernel
theorem dd197_69 : decode cX13_named 69 = .ok (.iconst 2, 1) := by decide +kernel
theorem dd197_70 : decode cX13_named 70 = .ok (.iload_n 1, 1) := by decide +kernel
theorem dd197_71 : decode cX13_named 71 = .ok (.invokevirtual 315, 3) := by decide +kernel
theorem dd197_74 : decode cX13_named 74 = .ok (.goto 9, 3) := by decide +kernel
theorem dd197_77 : decode cX13_named 77 = .ok (.aload_n 0, 1) := by decide +kernel
theorem dd197_78 : decode cX13_named 78 = .ok (.iconst 1, 1) := by decide +kernel
theorem dd197_79 : decode cX13_named 79 = .ok (.iload_n 1, 1) := by decide +kernel
theorem dd197_80 : decode cX13_named 80 = .ok (.invokevirtual 315, 3) := by decide +kernel
theorem dd197_83 : decode cX13_named 83 = .ok (.return_, 1) := by decide +kernel
def f197_77 (n : Nat) (g : zσ → Option zσ) (x1 : Int32) (s : zσ) : Option zσ :=
    yb0 (f196 n (1 : Int32) x1 s) fun u1 =>
    some u1
set_option maxRecDepth 20000 in
theorem f197_77_ok {n d : Nat} {Df : Nat} {g : zσ → Option zσ} {x1 : Int32} {s : zσ} {s2 : zσ} (hd : Df + 4 ≤ d ∧ 8 ≤ Df) (hg : ∀ (s : zσ) (s2 : zσ), g s = some s2 → ∀ {d : Nat}, Df ≤ d → ∀ {w : zσ} {fz : Bool} {L : Nat} {xs : Nat → Int32}, zGo (zX fz L xs) d q_194 (0, [(0, .ref 1132)], [], zmk w s, 0, 0) (none, zmk w s2, 0, 0)) (h : f197_77 n g x1 s = some s2) {w : zσ} {fz : Bool} {L : Nat} {xs : Nat → Int32} : zGo (zX fz L xs) d q_197 (77, [(0, .ref 1132), (1, .int x1)], [], zmk w s, 0, 0) (none, zmk w s2, 0, 0) := by
  obtain ⟨d, rfl⟩ : ∃ d0, d = d0 + 1 := ⟨d - 1, by omega⟩
  unfold f197_77 at h
  refine zGo_s (pc' := 78) (st' := [.ref 1132]) dd197_77 rfl ?_
  refine zGo_s (pc' := 79) (st' := [.int (1 : Int32), .ref 1132]) dd197_78 rfl ?_
  refine zGo_s (pc' := 80) (st' := [.int x1, .int (1 : Int32), .ref 1132]) dd197_79 rfl ?_
  obtain ⟨u1, hq, h⟩ := obn0 h
  refine zCV0 (As := [.int (1 : Int32), .int x1]) (rest := []) (b := 1132) (q' := q_196) dd197_80 rfl rfl (rcv_m rfl rfl (by decide)) rfl rfl rfl (f196_ok (d := d) (by omega)  hq) ?_
  obtain rfl := ore0 h
  exact zGo_ret dd197_83 rfl rfl
def f197 (n : Nat) (g : zσ → Option zσ) (s : zσ) : Option zσ :=
    yb1 (f189 n (10 : Int32) s) fun v2 u1 =>
    yb1 (f167 n u1) fun v4 u3 =>
    if v4 = (0 : Int32) then
    f197_77 n g v2 u3
    else yb1 (f177 n (91 : Int32) u3) fun v6 u5 =>
    if v6 = (0 : Int32) then
    f197_77 n g v2 u5
    else zrd 12 (u5.2.2 1132 12) fun a7 =>
    if zin? v2 1400 = true then
    zlet (sI u5 (a7 + 31) (nx v2) (1 : Int32)) fun u8 =>
    yb0 (f182 n u8) fun u9 =>
    yb1 (f167 n u9) fun v11 u10 =>
    if v11 = (0 : Int32) then
    some u10
    else yb0 (f164 n u10) fun u12 =>
    yb0 (f191 n g u12) fun u13 =>
    yb0 (f179 n (93 : Int32) u13) fun u14 =>
    zlet (sI u14 1132 14 ((u14.1 1132 14) - (1 : Int32))) fun u15 =>
    yb0 (f196 n (2 : Int32) v2 u15) fun u16 =>
    some u16
    else none
set_option maxRecDepth 20000 in
theorem f197_ok {n d : Nat} {Df : Nat} {g : zσ → Option zσ} {s : zσ} {s2 : zσ} (hd : Df + 4 ≤ d ∧ 8 ≤ Df) (hg : ∀ (s : zσ) (s2 : zσ), g s = some s2 → ∀ {d : Nat}, Df ≤ d → ∀ {w : zσ} {fz : Bool} {L : Nat} {xs : Nat → Int32}, zGo (zX fz L xs) d q_194 (0, [(0, .ref 1132)], [], zmk w s, 0, 0) (none, zmk w s2, 0, 0)) (h : f197 n g s = some s2) {w : zσ} {fz : Bool} {L : Nat} {xs : Nat → Int32} : zGo (zX fz L xs) d q_197 (0, [(0, .ref 1132)], [], zmk w s, 0, 0) (none, zmk w s2, 0, 0) := by
  obtain ⟨d, rfl⟩ : ∃ d0, d = d0 + 1 := ⟨d - 1, by omega⟩
  unfold f197 at h
  refine zGo_s (pc' := 1) (st' := [.ref 1132]) dd197_0 rfl ?_
  refine zGo_s (pc' := 3) (st' := [.int (10 : Int32), .ref 1132]) dd197_1 rfl ?_
  obtain ⟨v2, u1, hq, h⟩ := obnd h
  refine zCV1 (As := [.int (10 : Int32)]) (rest := []) (b := 1132) (q' := q_189) dd197_3 rfl rfl (rcv_m rfl rfl (by decide)) rfl rfl rfl (f189_ok (d := d) (by omega)  hq) ?_
  refine zGo_s (pc' := 7) (st' := []) (lv' := [(1, .int v2), (0, .ref 1132)]) dd197_6 rfl ?_
  refine zGo_s (pc' := 8) (st' := [.ref 1132]) dd197_7 rfl ?_
  obtain ⟨v4, u3, hq, h⟩ := obnd h
  refine zCV1 (As := []) (rest := []) (b := 1132) (q' := q_167) dd197_8 rfl rfl (rcv_m rfl rfl (by decide)) rfl rfl rfl (f167_ok (d := d) (by omega)  hq) ?_
  rcases oite h with ⟨hc, h⟩ | ⟨hc, h⟩
  · refine zUT dd197_11 rfl (kEqT hc) ?_
    exact zGo_lv (lv := [(0, .ref 1132), (1, .int v2)]) ⟨by simp, by simp, by simp⟩ (f197_77_ok hd hg h)
  · refine zUF dd197_11 (kEqF hc) ?_
    refine zGo_s (pc' := 15) (st' := [.ref 1132]) dd197_14 rfl ?_
    refine zGo_s (pc' := 17) (st' := [.int (91 : Int32), .ref 1132]) dd197_15 rfl ?_
    obtain ⟨v6, u5, hq, h⟩ := obnd h
    refine zCV1 (As := [.int (91 : Int32)]) (rest := []) (b := 1132) (q' := q_177) dd197_17 rfl rfl (rcv_m rfl rfl (by decide)) rfl rfl rfl (f177_ok (d := d) (by omega)  hq) ?_
    rcases oite h with ⟨hc, h⟩ | ⟨hc, h⟩
    · refine zUT dd197_20 rfl (kEqT hc) ?_
      exact zGo_lv (lv := [(0, .ref 1132), (1, .int v2)]) ⟨by simp, by simp, by simp⟩ (f197_77_ok hd hg h)
    · refine zUF dd197_20 (kEqF hc) ?_
      refine zGo_s (pc' := 24) (st' := [.ref 1132]) dd197_23 rfl ?_
      obtain ⟨a7, e_a7, c_a7, h⟩ := ordd h
      refine mGR dd197_24 rfl rfl rfl rfl e_a7 ?_
      refine mGF (e := (a7 + 31)) dd197_27 rfl (ck12_s c_a7).1 (ck12_s c_a7).2 rfl (cf12_37 c_a7).1 ?_
      refine zGo_s (pc' := 31) (st' := [.int v2, .ref (a7 + 31)]) dd197_30 rfl ?_
      refine zGo_s (pc' := 32) (st' := [.int (1 : Int32), .int v2, .ref (a7 + 31)]) dd197_31 rfl ?_
      obtain ⟨hi, h⟩ := ochk h
      obtain ⟨u8, e_u8, h⟩ := olet h
      refine mIS dd197_32 (cf12_37 c_a7).2.1 (cf12_37 c_a7).2.2 hi e_u8 ?_
      refine zGo_s (pc' := 34) (st' := [.ref 1132]) dd197_33 rfl ?_
      obtain ⟨u9, hq, h⟩ := obn0 h
      refine zCV0 (As := []) (rest := []) (b := 1132) (q' := q_182) dd197_34 rfl rfl (rcv_m rfl rfl (by decide)) rfl rfl rfl (f182_ok (d := d) (by omega)  hq) ?_
      refine zGo_s (pc' := 38) (st' := [.ref 1132]) dd197_37 rfl ?_
      obtain ⟨v11, u10, hq, h⟩ := obnd h
      refine zCV1 (As := []) (rest := []) (b := 1132) (q' := q_167) dd197_38 rfl rfl (rcv_m rfl rfl (by decide)) rfl rfl rfl (f167_ok (d := d) (by omega)  hq) ?_
      rcases oite h with ⟨hc, h⟩ | ⟨hc, h⟩
      · refine zUT dd197_41 rfl (kEqT hc) ?_
        obtain rfl := ore0 h
        exact zGo_ret dd197_83 rfl rfl
      · refine zUF dd197_41 (kEqF hc) ?_
        refine zGo_s (pc' := 45) (st' := [.ref 1132]) dd197_44 rfl ?_
        obtain ⟨u12, hq, h⟩ := obn0 h
        refine zCV0 (As := []) (rest := []) (b := 1132) (q' := q_164) dd197_45 rfl rfl (rcv_m rfl rfl (by decide)) rfl rfl rfl (f164_ok (d := d) (by omega)  hq) ?_
        refine zGo_s (pc' := 49) (st' := [.ref 1132]) dd197_48 rfl ?_
        obtain ⟨u13, hq, h⟩ := obn0 h
        refine zCV0 (As := []) (rest := []) (b := 1132) (q' := q_191) dd197_49 rfl rfl (rcv_m rfl rfl (by decide)) rfl rfl rfl (f191_ok (d := d) (by omega) hg  hq) ?_
        refine zGo_s (pc' := 53) (st' := [.ref 1132]) dd197_52 rfl ?_
        refine zGo_s (pc' := 55) (st' := [.int (93 : Int32), .ref 1132]) dd197_53 rfl ?_
        obtain ⟨u14, hq, h⟩ := obn0 h
        refine zCV0 (As := [.int (93 : Int32)]) (rest := []) (b := 1132) (q' := q_179) dd197_55 rfl rfl (rcv_m rfl rfl (by decide)) rfl rfl rfl (f179_ok (d := d) (by omega)  hq) ?_
        refine zGo_s (pc' := 59) (st' := [.ref 1132]) dd197_58 rfl ?_
        refine zGo_s (pc' := 60) (st' := [.ref 1132, .ref 1132]) dd197_59 rfl ?_
        refine mGI dd197_60 rfl rfl rfl rfl ?_
        refine zGo_s (pc' := 64) (st' := [.int (1 : Int32), .int (u14.1 1132 14), .ref 1132]) dd197_63 rfl ?_
        refine zGo_s (pc' := 65) (st' := [.int ((u14.1 1132 14) - (1 : Int32)), .ref 1132]) dd197_64 rfl ?_
        obtain ⟨u15, e_u15, h⟩ := olet h
        refine mPI dd197_65 rfl rfl rfl rfl rfl rfl e_u15 ?_
        refine zGo_s (pc' := 69) (st' := [.ref 1132]) dd197_68 rfl ?_
        refine zGo_s (pc' := 70) (st' := [.int (2 : Int32), .ref 1132]) dd197_69 rfl ?_
        refine zGo_s (pc' := 71) (st' := [.int v2, .int (2 : Int32), .ref 1132]) dd197_70 rfl ?_
        obtain ⟨u16, hq, h⟩ := obn0 h
        refine zCV0 (As := [.int (2 : Int32), .int v2]) (rest := []) (b := 1132) (q' := q_196) dd197_71 rfl rfl (rcv_m rfl rfl (by decide)) rfl rfl rfl (f196_ok (d := d) (by omega)  hq) ?_
        refine zGo_s (pc' := 83) (st' := []) dd197_74 rfl ?_
        obtain rfl := ore0 h
        exact zGo_ret dd197_83 rfl rfl
/-! PHModel.factor()V -/
theorem dd194_0 : decode cX13_factor 0 = .ok (.aload_n 0, 1) := by decide +kernel
theorem dd194_1 : decode cX13_factor 1 = .ok (.invokevirtual 223, 3) := by decide +kernel
theorem dd194_4 : decode cX13_factor 4 = .ok (.ifCond .ne 4, 3) := by decide +kernel
theorem dd194_7 : decode cX13_factor 7 = .ok (.return_, 1) := by decide +kernel
theorem dd194_8 : decode cX13_factor 8 = .ok (.aload_n 0, 1) := by decide +kernel
theorem dd194_9 : decode cX13_factor 9 = .ok (.getfield 179, 3) := by decide +kernel
theorem dd194_12 : decode cX13_factor 12 = .ok (.iconst 2, 1) := by decide +kernel
theorem dd194_13 : decode cX13_factor 13 = .ok (.if_icmp .ne 23, 3) := by decide +kernel
theorem dd194_16 : decode cX13_factor 16 = .ok (.aload_n 0, 1) := by decide +kernel
theorem dd194_17 : decode cX13_factor 17 = .ok (.invokevirtual 312, 3) := by decide +kernel
theorem dd194_20 : decode cX13_factor 20 = .ok (.aload_n 0, 1) := by decide +kernel
theorem dd194_21 : decode cX13_factor 21 = .ok (.iconst 0, 1) := by decide +kernel
theorem dd194_22 : decode cX13_factor 22 = .ok (.aload_n 0, 1) := by decide +kernel
theorem dd194_23 : decode cX13_factor 23 = .ok (.getfield 193, 3) := by decide +kernel
theorem dd194_26 : decode cX13_factor 26 = .ok (.invokevirtual 315, 3) := by decide +kernel
theorem dd194_29 : decode cX13_factor 29 = .ok (.aload_n 0, 1) := by decide +kernel
theorem dd194_30 : decode cX13_factor 30 = .ok (.invokevirtual 231, 3) := by decide +kernel
theorem dd194_33 : decode cX13_factor 33 = .ok (.goto 217, 3) := by decide +kernel
theorem dd194_36 : decode cX13_factor 36 = .ok (.aload_n 0, 1) := by decide +kernel
theorem dd194_37 : decode cX13_factor 37 = .ok (.invokevirtual 246, 3) := by decide +kernel
theorem dd194_40 : decode cX13_factor 40 = .ok (.ifCond .eq 14, 3) := by decide +kernel
theorem dd194_43 : decode cX13_factor 43 = .ok (.aload_n 0, 1) := by decide +kernel
theorem dd194_44 : decode cX13_factor 44 = .ok (.invokevirtual 312, 3) := by decide +kernel
theorem dd194_47 : decode cX13_factor 47 = .ok (.aload_n 0, 1) := by decide +kernel
theorem dd194_48 : decode cX13_factor 48 = .ok (.invokevirtual 323, 3) := by decide +kernel
theorem dd194_51 : decode cX13_factor 51 = .ok (.goto 199, 3) := by decide +kernel
theorem dd194_54 : decode cX13_factor 54 = .ok (.aload_n 0, 1) := by decide +kernel
theorem dd194_55 : decode cX13_factor 55 = .ok (.ldc_w 326, 3) := by decide +kernel
theorem dd194_58 : decode cX13_factor 58 = .ok (.invokevirtual 328, 3) := by decide +kernel
theorem dd194_61 : decode cX13_factor 61 = .ok (.ifCond .ne 13, 3) := by decide +kernel
theorem dd194_64 : decode cX13_factor 64 = .ok (.aload_n 0, 1) := by decide +kernel
theorem dd194_65 : decode cX13_factor 65 = .ok (.ldc_w 332, 3) := by decide +kernel
theorem dd194_68 : decode cX13_factor 68 = .ok (.invokevirtual 328, 3) := by decide +kernel
theorem dd194_71 : decode cX13_factor 71 = .ok (.ifCond .eq 49, 3) := by decide +kernel
theorem dd194_74 : decode cX13_factor 74 = .ok (.aload_n 0, 1) := by decide +kernel
theorem dd194_75 : decode cX13_factor 75 = .ok (.ldc_w 326, 3) := by decide +kernel
theorem dd194_78 : decode cX13_factor 78 = .ok (.invokevirtual 328, 3) := by decide +kernel
theorem dd194_81 : decode cX13_factor 81 = .ok (.istore_n 1, 1) := by decide +kernel
theorem dd194_82 : decode cX13_factor 82 = .ok (.aload_n 0, 1) := by decide +kernel
theorem dd194_83 : decode cX13_factor 83 = .ok (.invokevirtual 312, 3) := by decide +kernel
theorem dd194_86 : decode cX13_factor 86 = .ok (.aload_n 0, 1) := by decide +kernel
theorem dd194_87 : decode cX13_factor 87 = .ok (.invokevirtual 231, 3) := by decide +kernel
theorem dd194_90 : decode cX13_factor 90 = .ok (.aload_n 0, 1) := by decide +kernel
theorem dd194_91 : decode cX13_factor 91 = .ok (.iload_n 1, 1) := by decide +kernel
theorem dd194_92 : decode cX13_factor 92 = .ok (.ifCond .eq 7, 3) := by decide +kernel
theorem dd194_95 : decode cX13_factor 95 = .ok (.iconst 3, 1) := by decide +kernel
theorem dd194_96 : decode cX13_factor 96 = .ok (.goto 4, 3) := by decide +kernel
theorem dd194_99 : decode cX13_factor 99 = .ok (.iconst 5, 1) := by decide +kernel
theorem dd194_100 : decode cX13_factor 100 = .ok (.aload_n 0, 1) := by decide +kernel
theorem dd194_101 : decode cX13_factor 101 = .ok (.iload_n 1, 1) := by decide +kernel
theorem dd194_102 : decode cX13_factor 102 = .ok (.ifCond .eq 7, 3) := by decide +kernel
theorem dd194_105 : decode cX13_factor 105 = .ok (.iconst 1, 1) := by decide +kernel
theorem dd194_106 : decode cX13_factor 106 = .ok (.goto 5, 3) := by decide +kernel
theorem dd194_109 : decode cX13_factor 109 = .ok (.bipush 8, 2) := by decide +kernel
theorem dd194_111 : decode cX13_factor 111 = .ok (.invokevirtual 333, 3) := by decide +kernel
theorem dd194_114 : decode cX13_factor 114 = .ok (.invokevirtual 315, 3) := by decide +kernel
theorem dd194_117 : decode cX13_factor 117 = .ok (.goto 133, 3) := by decide +kernel
theorem dd194_120 : decode cX13_factor 120 = .ok (.aload_n 0, 1) := by decide +kernel
theorem dd194_121 : decode cX13_factor 121 = .ok (.ldc_w 336, 3) := by decide +kernel
theorem dd194_124 : decode cX13_factor 124 = .ok (.invokevirtual 328, 3) := by decide +kernel
theorem dd194_127 : decode cX13_factor 127 = .ok (.ifCond .eq 20, 3) := by decide +kernel
theorem dd194_130 : decode cX13_factor 130 = .ok (.aload_n 0, 1) := by decide +kernel
theorem dd194_131 : decode cX13_factor 131 = .ok (.invokevirtual 312, 3) := by decide +kernel
theorem dd194_134 : decode cX13_factor 134 = .ok (.aload_n 0, 1) := by decide +kernel
theorem dd194_135 : decode cX13_factor 135 = .ok (.invokevirtual 231, 3) := by decide +kernel
theorem dd194_138 : decode cX13_factor 138 = .ok (.aload_n 0, 1) := by decide +kernel
theorem dd194_139 : decode cX13_factor 139 = .ok (.iconst 4, 1) := by decide +kernel
theorem dd194_140 : decode cX13_factor 140 = .ok (.iconst 0, 1) := by decide +kernel
theorem dd194_141 : decode cX13_factor 141 = .ok (.invokevirtual 315, 3) := by decide +kernel
theorem dd194_144 : decode cX13_factor 144 = .ok (.goto 106, 3) := by decide +kernel
theorem dd194_147 : decode cX13_factor 147 = .ok (.aload_n 0, 1) := by decide +kernel
theorem dd194_148 : decode cX13_factor 148 = .ok (.bipush 45, 2) := by decide +kernel
theorem dd194_150 : decode cX13_factor 150 = .ok (.invokevirtual 227, 3) := by decide +kernel
theorem dd194_153 : decode cX13_factor 153 = .ok (.ifCond .eq 46, 3) := by decide +kernel
theorem dd194_156 : decode cX13_factor 156 = .ok (.aload_n 0, 1) := by decide +kernel
theorem dd194_157 : decode cX13_factor 157 = .ok (.invokevirtual 312, 3) := by decide +kernel
theorem dd194_160 : decode cX13_factor 160 = .ok (.aload_n 0, 1) := by decide +kernel
theorem dd194_161 : decode cX13_factor 161 = .ok (.invokevirtual 338, 3) := by decide +kernel
theorem dd194_164 : decode cX13_factor 164 = .ok (.aload_n 0, 1) := by decide +kernel
theorem dd194_165 : decode cX13_factor 165 = .ok (.invokevirtual 223, 3) := by decide +kernel
theorem dd194_168 : decode cX13_factor 168 = .ok (.ifCond .eq 82, 3) := by decide +kernel
theorem dd194_171 : decode cX13_factor 171 = .ok (.aload_n 0, 1) := by decide +kernel
theorem dd194_172 : decode cX13_factor 172 = .ok (.invokevirtual 231, 3) := by decide +kernel
theorem dd194_175 : decode cX13_factor 175 = .ok (.aload_n 0, 1) := by decide +kernel
theorem dd194_176 : decode cX13_factor 176 = .ok (.invokevirtual 320, 3) := by decide +kernel
theorem dd194_179 : decode cX13_factor 179 = .ok (.aload_n 0, 1) := by decide +kernel
theorem dd194_180 : decode cX13_factor 180 = .ok (.dup, 1) := by decide +kernel
theorem dd194_181 : decode cX13_factor 181 = .ok (.getfield 243, 3) := by decide +kernel
theorem dd194_184 : decode cX13_factor 184 = .ok (.iconst 1, 1) := by decide +kernel
theorem dd194_185 : decode cX13_factor 185 = .ok (.isub, 1) := by decide +kernel
theorem dd194_186 : decode cX13_factor 186 = .ok (.putfield 243, 3) := by decide +kernel
theorem dd194_189 : decode cX13_factor 189 = .ok (.aload_n 0, 1) := by decide +kernel
theorem dd194_190 : decode cX13_factor 190 = .ok (.bipush 6, 2) := by decide +kernel
theorem dd194_192 : decode cX13_factor 192 = .ok (.iconst 0, 1) := by decide +kernel
theorem dd194_193 : decode cX13_factor 193 = .ok (.invokevirtual 315, 3) := by decide +kernel
theorem dd194_196 : decode cX13_factor 196 = .ok (.goto 54, 3) := by decide +kernel
theorem dd194_199 : decode cX13_factor 199 = .ok (.aload_n 0, 1) := by decide +kernel
theorem dd194_200 : decode cX13_factor 200 = .ok (.bipush 40, 2) := by decide +kernel
theorem dd194_202 : decode cX13_factor 202 = .ok (.invokevirtual 227, 3) := by decide +kernel
theorem dd194_205 : decode cX13_factor 205 = .ok (.ifCond .eq 41, 3) := by decide +kernel
theorem dd194_208 : decode cX13_factor 208 = .ok (.aload_n 0, 1) := by decide +kernel
theorem dd194_209 : decode cX13_factor 209 = .ok (.invokevirtual 338, 3) := by decide +kernel
theorem dd194_212 : decode cX13_factor 212 = .ok (.aload_n 0, 1) := by decide +kernel
theorem dd194_213 : decode cX13_factor 213 = .ok (.invokevirtual 223, 3) := by decide +kernel
theorem dd194_216 : decode cX13_factor 216 = .ok (.ifCond .eq 34, 3) := by decide +kernel
theorem dd194_219 : decode cX13_factor 219 = .ok (.aload_n 0, 1) := by decide +kernel
theorem dd194_220 : decode cX13_factor 220 = .ok (.invokevirtual 231, 3) := by decide +kernel
theorem dd194_223 : decode cX13_factor 223 = .ok (.aload_n 0, 1) := by decide +kernel
theorem dd194_224 : decode cX13_factor 224 = .ok (.invokevirtual 297, 3) := by decide +kernel
theorem dd194_227 : decode cX13_factor 227 = .ok (.aload_n 0, 1) := by decide +kernel
theorem dd194_228 : decode cX13_factor 228 = .ok (.bipush 41, 2) := by decide +kernel
theorem dd194_230 : decode cX13_factor 230 = .ok (.invokevirtual 341, 3) := by decide +kernel
theorem dd194_233 : decode cX13_factor 233 = .ok (.aload_n 0, 1) := by decide +kernel
theorem dd194_234 : decode cX13_factor 234 = .ok (.dup, 1) := by decide +kernel
theorem dd194_235 : decode cX13_factor 235 = .ok (.getfield 243, 3) := by decide +kernel
theorem dd194_238 : decode cX13_factor 238 = .ok (.iconst 1, 1) := by decide +kernel
theorem dd194_239 : decode cX13_factor 239 = .ok (.isub, 1) := by decide +kernel
theorem dd194_240 : decode cX13_factor 240 = .ok (.putfield 243, 3) := by decide +kernel
theorem dd194_243 : decode cX13_factor 243 = .ok (.goto 7, 3) := by decide +kernel
theorem dd194_246 : decode cX13_factor 246 = .ok (.aload_n 0, 1) := by decide +kernel
theorem dd194_247 : decode cX13_factor 247 = .ok (.invokevirtual 234, 3) := by decide +kernel
theorem dd194_250 : decode cX13_factor 250 = .ok (.return_, 1) := by decide +kernel
def f194_111 (n : Nat) (g : zσ → Option zσ) (y0 : Int32) (y2 : Int32) (s : zσ) : Option zσ :=
    yb1 (f189 n y0 s) fun v2 u1 =>
    yb0 (f196 n y2 v2 u1) fun u3 =>
    some u3
set_option maxRecDepth 20000 in
theorem f194_111_ok {n d : Nat} {Df : Nat} {g : zσ → Option zσ} {y0 : Int32} {y2 : Int32} {s : zσ} {s2 : zσ} (hd : Df + 5 ≤ d ∧ 8 ≤ Df) (hg : ∀ (s : zσ) (s2 : zσ), g s = some s2 → ∀ {d : Nat}, Df ≤ d → ∀ {w : zσ} {fz : Bool} {L : Nat} {xs : Nat → Int32}, zGo (zX fz L xs) d q_194 (0, [(0, .ref 1132)], [], zmk w s, 0, 0) (none, zmk w s2, 0, 0)) (h : f194_111 n g y0 y2 s = some s2) {w : zσ} {fz : Bool} {L : Nat} {xs : Nat → Int32} : zGo (zX fz L xs) d q_194 (111, [], [.int y0, .ref 1132, .int y2, .ref 1132], zmk w s, 0, 0) (none, zmk w s2, 0, 0) := by
  obtain ⟨d, rfl⟩ : ∃ d0, d = d0 + 1 := ⟨d - 1, by omega⟩
  unfold f194_111 at h
  obtain ⟨v2, u1, hq, h⟩ := obnd h
  refine zCV1 (As := [.int y0]) (rest := [.int y2, .ref 1132]) (b := 1132) (q' := q_189) dd194_111 rfl rfl (rcv_m rfl rfl (by decide)) rfl rfl rfl (f189_ok (d := d) (by omega)  hq) ?_
  obtain ⟨u3, hq, h⟩ := obn0 h
  refine zCV0 (As := [.int y2, .int v2]) (rest := []) (b := 1132) (q' := q_196) dd194_114 rfl rfl (rcv_m rfl rfl (by decide)) rfl rfl rfl (f196_ok (d := d) (by omega)  hq) ?_
  refine zGo_s (pc' := 250) (st' := []) dd194_117 rfl ?_
  obtain rfl := ore0 h
  exact zGo_ret dd194_250 rfl rfl
def f194_100 (n : Nat) (g : zσ → Option zσ) (x1 : Int32) (y0 : Int32) (s : zσ) : Option zσ :=
    if x1 = (0 : Int32) then
    f194_111 n g (8 : Int32) y0 s
    else f194_111 n g (1 : Int32) y0 s
set_option maxRecDepth 20000 in
theorem f194_100_ok {n d : Nat} {Df : Nat} {g : zσ → Option zσ} {x1 : Int32} {y0 : Int32} {s : zσ} {s2 : zσ} (hd : Df + 5 ≤ d ∧ 8 ≤ Df) (hg : ∀ (s : zσ) (s2 : zσ), g s = some s2 → ∀ {d : Nat}, Df ≤ d → ∀ {w : zσ} {fz : Bool} {L : Nat} {xs : Nat → Int32}, zGo (zX fz L xs) d q_194 (0, [(0, .ref 1132)], [], zmk w s, 0, 0) (none, zmk w s2, 0, 0)) (h : f194_100 n g x1 y0 s = some s2) {w : zσ} {fz : Bool} {L : Nat} {xs : Nat → Int32} : zGo (zX fz L xs) d q_194 (100, [(0, .ref 1132), (1, .int x1)], [.int y0, .ref 1132], zmk w s, 0, 0) (none, zmk w s2, 0, 0) := by
  obtain ⟨d, rfl⟩ : ∃ d0, d = d0 + 1 := ⟨d - 1, by omega⟩
  unfold f194_100 at h
  refine zGo_s (pc' := 101) (st' := [.ref 1132, .int y0, .ref 1132]) dd194_100 rfl ?_
  refine zGo_s (pc' := 102) (st' := [.int x1, .ref 1132, .int y0, .ref 1132]) dd194_101 rfl ?_
  rcases oite h with ⟨hc, h⟩ | ⟨hc, h⟩
  · refine zUT dd194_102 rfl (kEqT hc) ?_
    refine zGo_s (pc' := 111) (st' := [.int (8 : Int32), .ref 1132, .int y0, .ref 1132]) dd194_109 rfl ?_
    exact zGo_lv (lv := []) ⟨by simp, by simp, by simp⟩ (f194_111_ok hd hg h)
  · refine zUF dd194_102 (kEqF hc) ?_
    refine zGo_s (pc' := 106) (st' := [.int (1 : Int32), .ref 1132, .int y0, .ref 1132]) dd194_105 rfl ?_
    refine zGo_s (pc' := 111) (st' := [.int (1 : Int32), .ref 1132, .int y0, .ref 1132]) dd194_106 rfl ?_
    exact zGo_lv (lv := []) ⟨by simp, by simp, by simp⟩ (f194_111_ok hd hg h)
def f194_74 (n : Nat) (g : zσ → Option zσ) (s : zσ) : Option zσ :=
    yb1 (f170 n 45 s) fun v2 u1 =>
    yb0 (f195 n u1) fun u3 =>
    yb0 (f164 n u3) fun u4 =>
    if v2 = (0 : Int32) then
    f194_100 n g v2 (5 : Int32) u4
    else f194_100 n g v2 (3 : Int32) u4
set_option maxRecDepth 20000 in
theorem f194_74_ok {n d : Nat} {Df : Nat} {g : zσ → Option zσ} {s : zσ} {s2 : zσ} (hd : Df + 5 ≤ d ∧ 8 ≤ Df) (hg : ∀ (s : zσ) (s2 : zσ), g s = some s2 → ∀ {d : Nat}, Df ≤ d → ∀ {w : zσ} {fz : Bool} {L : Nat} {xs : Nat → Int32}, zGo (zX fz L xs) d q_194 (0, [(0, .ref 1132)], [], zmk w s, 0, 0) (none, zmk w s2, 0, 0)) (h : f194_74 n g s = some s2) {w : zσ} {fz : Bool} {L : Nat} {xs : Nat → Int32} : zGo (zX fz L xs) d q_194 (74, [(0, .ref 1132)], [], zmk w s, 0, 0) (none, zmk w s2, 0, 0) := by
  obtain ⟨d, rfl⟩ : ∃ d0, d = d0 + 1 := ⟨d - 1, by omega⟩
  unfold f194_74 at h
  refine zGo_s (pc' := 75) (st' := [.ref 1132]) dd194_74 rfl ?_
  refine zGo_s (pc' := 78) (st' := [.ref 45, .ref 1132]) dd194_75 rfl ?_
  obtain ⟨v2, u1, hq, h⟩ := obnd h
  refine zCV1 (As := [.ref 45]) (rest := []) (b := 1132) (q' := q_170) dd194_78 rfl rfl (rcv_m rfl rfl (by decide)) rfl rfl rfl (f170_ok (d := d) (by omega) (by decide) hq) ?_
  refine zGo_s (pc' := 82) (st' := []) (lv' := [(1, .int v2), (0, .ref 1132)]) dd194_81 rfl ?_
  refine zGo_s (pc' := 83) (st' := [.ref 1132]) dd194_82 rfl ?_
  obtain ⟨u3, hq, h⟩ := obn0 h
  refine zCV0 (As := []) (rest := []) (b := 1132) (q' := q_195) dd194_83 rfl rfl (rcv_m rfl rfl (by decide)) rfl rfl rfl (f195_ok (d := d) (by omega)  hq) ?_
  refine zGo_s (pc' := 87) (st' := [.ref 1132]) dd194_86 rfl ?_
  obtain ⟨u4, hq, h⟩ := obn0 h
  refine zCV0 (As := []) (rest := []) (b := 1132) (q' := q_164) dd194_87 rfl rfl (rcv_m rfl rfl (by decide)) rfl rfl rfl (f164_ok (d := d) (by omega)  hq) ?_
  refine zGo_s (pc' := 91) (st' := [.ref 1132]) dd194_90 rfl ?_
  refine zGo_s (pc' := 92) (st' := [.int v2, .ref 1132]) dd194_91 rfl ?_
  rcases oite h with ⟨hc, h⟩ | ⟨hc, h⟩
  · refine zUT dd194_92 rfl (kEqT hc) ?_
    refine zGo_s (pc' := 100) (st' := [.int (5 : Int32), .ref 1132]) dd194_99 rfl ?_
    exact zGo_lv (lv := [(0, .ref 1132), (1, .int v2)]) ⟨by simp, by simp, by simp⟩ (f194_100_ok hd hg h)
  · refine zUF dd194_92 (kEqF hc) ?_
    refine zGo_s (pc' := 96) (st' := [.int (3 : Int32), .ref 1132]) dd194_95 rfl ?_
    refine zGo_s (pc' := 100) (st' := [.int (3 : Int32), .ref 1132]) dd194_96 rfl ?_
    exact zGo_lv (lv := [(0, .ref 1132), (1, .int v2)]) ⟨by simp, by simp, by simp⟩ (f194_100_ok hd hg h)
def f194b (n : Nat) (g : zσ → Option zσ) (s : zσ) : Option zσ :=
    yb1 (f167 n s) fun v2 u1 =>
    if v2 = (0 : Int32) then
    some u1
    else if (u1.1 1132 3) = (2 : Int32) then
    yb0 (f195 n u1) fun u36 =>
    yb0 (f196 n (0 : Int32) (u36.1 1132 7) u36) fun u37 =>
    yb0 (f164 n u37) fun u38 =>
    some u38
    else yb1 (f175 n u1) fun v4 u3 =>
    if v4 = (0 : Int32) then
    yb1 (f170 n 45 u3) fun v6 u5 =>
    if v6 = (0 : Int32) then
    yb1 (f170 n 46 u5) fun v8 u7 =>
    if v8 = (0 : Int32) then
    yb1 (f170 n 47 u7) fun v10 u9 =>
    if v10 = (0 : Int32) then
    yb1 (f177 n (45 : Int32) u9) fun v12 u11 =>
    if v12 = (0 : Int32) then
    yb1 (f177 n (40 : Int32) u11) fun v14 u13 =>
    if v14 = (0 : Int32) then
    yb0 (f172 n u13) fun u15 =>
    some u15
    else yb0 (f182 n u13) fun u16 =>
    yb1 (f167 n u16) fun v18 u17 =>
    if v18 = (0 : Int32) then
    some u17
    else yb0 (f164 n u17) fun u19 =>
    yb0 (f191 n g u19) fun u20 =>
    yb0 (f179 n (41 : Int32) u20) fun u21 =>
    zlet (sI u21 1132 14 ((u21.1 1132 14) - (1 : Int32))) fun u22 =>
    some u22
    else yb0 (f195 n u11) fun u23 =>
    yb0 (f182 n u23) fun u24 =>
    yb1 (f167 n u24) fun v26 u25 =>
    if v26 = (0 : Int32) then
    some u25
    else yb0 (f164 n u25) fun u27 =>
    yb0 (g u27) fun u28 =>
    zlet (sI u28 1132 14 ((u28.1 1132 14) - (1 : Int32))) fun u29 =>
    yb0 (f196 n (6 : Int32) (0 : Int32) u29) fun u30 =>
    some u30
    else yb0 (f195 n u9) fun u31 =>
    yb0 (f164 n u31) fun u32 =>
    yb0 (f196 n (4 : Int32) (0 : Int32) u32) fun u33 =>
    some u33
    else f194_74 n g u7
    else f194_74 n g u5
    else yb0 (f195 n u3) fun u34 =>
    yb0 (f197 n g u34) fun u35 =>
    some u35
set_option maxRecDepth 20000 in
theorem f194b_ok {n d : Nat} {Df : Nat} {g : zσ → Option zσ} {s : zσ} {s2 : zσ} (hd : Df + 5 ≤ d ∧ 8 ≤ Df) (hg : ∀ (s : zσ) (s2 : zσ), g s = some s2 → ∀ {d : Nat}, Df ≤ d → ∀ {w : zσ} {fz : Bool} {L : Nat} {xs : Nat → Int32}, zGo (zX fz L xs) d q_194 (0, [(0, .ref 1132)], [], zmk w s, 0, 0) (none, zmk w s2, 0, 0)) (h : f194b n g s = some s2) {w : zσ} {fz : Bool} {L : Nat} {xs : Nat → Int32} : zGo (zX fz L xs) d q_194 (0, [(0, .ref 1132)], [], zmk w s, 0, 0) (none, zmk w s2, 0, 0) := by
  obtain ⟨d, rfl⟩ : ∃ d0, d = d0 + 1 := ⟨d - 1, by omega⟩
  unfold f194b at h
  refine zGo_s (pc' := 1) (st' := [.ref 1132]) dd194_0 rfl ?_
  obtain ⟨v2, u1, hq, h⟩ := obnd h
  refine zCV1 (As := []) (rest := []) (b := 1132) (q' := q_167) dd194_1 rfl rfl (rcv_m rfl rfl (by decide)) rfl rfl rfl (f167_ok (d := d) (by omega)  hq) ?_
  rcases oite h with ⟨hc, h⟩ | ⟨hc, h⟩
  · refine zUF dd194_4 (kNeF hc) ?_
    obtain rfl := ore0 h
    exact zGo_ret dd194_7 rfl rfl
  · refine zUT dd194_4 rfl (kNeT hc) ?_
    refine zGo_s (pc' := 9) (st' := [.ref 1132]) dd194_8 rfl ?_
    refine mGI dd194_9 rfl rfl rfl rfl ?_
    refine zGo_s (pc' := 13) (st' := [.int (2 : Int32), .int (u1.1 1132 3)]) dd194_12 rfl ?_
    rcases oite h with ⟨hc, h⟩ | ⟨hc, h⟩
    · refine zIF dd194_13 (kNeF hc) ?_
      refine zGo_s (pc' := 17) (st' := [.ref 1132]) dd194_16 rfl ?_
      obtain ⟨u36, hq, h⟩ := obn0 h
      refine zCV0 (As := []) (rest := []) (b := 1132) (q' := q_195) dd194_17 rfl rfl (rcv_m rfl rfl (by decide)) rfl rfl rfl (f195_ok (d := d) (by omega)  hq) ?_
      refine zGo_s (pc' := 21) (st' := [.ref 1132]) dd194_20 rfl ?_
      refine zGo_s (pc' := 22) (st' := [.int (0 : Int32), .ref 1132]) dd194_21 rfl ?_
      refine zGo_s (pc' := 23) (st' := [.ref 1132, .int (0 : Int32), .ref 1132]) dd194_22 rfl ?_
      refine mGI dd194_23 rfl rfl rfl rfl ?_
      obtain ⟨u37, hq, h⟩ := obn0 h
      refine zCV0 (As := [.int (0 : Int32), .int (u36.1 1132 7)]) (rest := []) (b := 1132) (q' := q_196) dd194_26 rfl rfl (rcv_m rfl rfl (by decide)) rfl rfl rfl (f196_ok (d := d) (by omega)  hq) ?_
      refine zGo_s (pc' := 30) (st' := [.ref 1132]) dd194_29 rfl ?_
      obtain ⟨u38, hq, h⟩ := obn0 h
      refine zCV0 (As := []) (rest := []) (b := 1132) (q' := q_164) dd194_30 rfl rfl (rcv_m rfl rfl (by decide)) rfl rfl rfl (f164_ok (d := d) (by omega)  hq) ?_
      refine zGo_s (pc' := 250) (st' := []) dd194_33 rfl ?_
      obtain rfl := ore0 h
      exact zGo_ret dd194_250 rfl rfl
    · refine zIT dd194_13 rfl (kNeT hc) ?_
      refine zGo_s (pc' := 37) (st' := [.ref 1132]) dd194_36 rfl ?_
      obtain ⟨v4, u3, hq, h⟩ := obnd h
      refine zCV1 (As := []) (rest := []) (b := 1132) (q' := q_175) dd194_37 rfl rfl (rcv_m rfl rfl (by decide)) rfl rfl rfl (f175_ok (d := d) (by omega)  hq) ?_
      rcases oite h with ⟨hc, h⟩ | ⟨hc, h⟩
      · refine zUT dd194_40 rfl (kEqT hc) ?_
        refine zGo_s (pc' := 55) (st' := [.ref 1132]) dd194_54 rfl ?_
        refine zGo_s (pc' := 58) (st' := [.ref 45, .ref 1132]) dd194_55 rfl ?_
        obtain ⟨v6, u5, hq, h⟩ := obnd h
        refine zCV1 (As := [.ref 45]) (rest := []) (b := 1132) (q' := q_170) dd194_58 rfl rfl (rcv_m rfl rfl (by decide)) rfl rfl rfl (f170_ok (d := d) (by omega) (by decide) hq) ?_
        rcases oite h with ⟨hc, h⟩ | ⟨hc, h⟩
        · refine zUF dd194_61 (kNeF hc) ?_
          refine zGo_s (pc' := 65) (st' := [.ref 1132]) dd194_64 rfl ?_
          refine zGo_s (pc' := 68) (st' := [.ref 46, .ref 1132]) dd194_65 rfl ?_
          obtain ⟨v8, u7, hq, h⟩ := obnd h
          refine zCV1 (As := [.ref 46]) (rest := []) (b := 1132) (q' := q_170) dd194_68 rfl rfl (rcv_m rfl rfl (by decide)) rfl rfl rfl (f170_ok (d := d) (by omega) (by decide) hq) ?_
          rcases oite h with ⟨hc, h⟩ | ⟨hc, h⟩
          · refine zUT dd194_71 rfl (kEqT hc) ?_
            refine zGo_s (pc' := 121) (st' := [.ref 1132]) dd194_120 rfl ?_
            refine zGo_s (pc' := 124) (st' := [.ref 47, .ref 1132]) dd194_121 rfl ?_
            obtain ⟨v10, u9, hq, h⟩ := obnd h
            refine zCV1 (As := [.ref 47]) (rest := []) (b := 1132) (q' := q_170) dd194_124 rfl rfl (rcv_m rfl rfl (by decide)) rfl rfl rfl (f170_ok (d := d) (by omega) (by decide) hq) ?_
            rcases oite h with ⟨hc, h⟩ | ⟨hc, h⟩
            · refine zUT dd194_127 rfl (kEqT hc) ?_
              refine zGo_s (pc' := 148) (st' := [.ref 1132]) dd194_147 rfl ?_
              refine zGo_s (pc' := 150) (st' := [.int (45 : Int32), .ref 1132]) dd194_148 rfl ?_
              obtain ⟨v12, u11, hq, h⟩ := obnd h
              refine zCV1 (As := [.int (45 : Int32)]) (rest := []) (b := 1132) (q' := q_177) dd194_150 rfl rfl (rcv_m rfl rfl (by decide)) rfl rfl rfl (f177_ok (d := d) (by omega)  hq) ?_
              rcases oite h with ⟨hc, h⟩ | ⟨hc, h⟩
              · refine zUT dd194_153 rfl (kEqT hc) ?_
                refine zGo_s (pc' := 200) (st' := [.ref 1132]) dd194_199 rfl ?_
                refine zGo_s (pc' := 202) (st' := [.int (40 : Int32), .ref 1132]) dd194_200 rfl ?_
                obtain ⟨v14, u13, hq, h⟩ := obnd h
                refine zCV1 (As := [.int (40 : Int32)]) (rest := []) (b := 1132) (q' := q_177) dd194_202 rfl rfl (rcv_m rfl rfl (by decide)) rfl rfl rfl (f177_ok (d := d) (by omega)  hq) ?_
                rcases oite h with ⟨hc, h⟩ | ⟨hc, h⟩
                · refine zUT dd194_205 rfl (kEqT hc) ?_
                  refine zGo_s (pc' := 247) (st' := [.ref 1132]) dd194_246 rfl ?_
                  obtain ⟨u15, hq, h⟩ := obn0 h
                  refine zCV0 (As := []) (rest := []) (b := 1132) (q' := q_172) dd194_247 rfl rfl (rcv_m rfl rfl (by decide)) rfl rfl rfl (f172_ok (d := d) (by omega)  hq) ?_
                  obtain rfl := ore0 h
                  exact zGo_ret dd194_250 rfl rfl
                · refine zUF dd194_205 (kEqF hc) ?_
                  refine zGo_s (pc' := 209) (st' := [.ref 1132]) dd194_208 rfl ?_
                  obtain ⟨u16, hq, h⟩ := obn0 h
                  refine zCV0 (As := []) (rest := []) (b := 1132) (q' := q_182) dd194_209 rfl rfl (rcv_m rfl rfl (by decide)) rfl rfl rfl (f182_ok (d := d) (by omega)  hq) ?_
                  refine zGo_s (pc' := 213) (st' := [.ref 1132]) dd194_212 rfl ?_
                  obtain ⟨v18, u17, hq, h⟩ := obnd h
                  refine zCV1 (As := []) (rest := []) (b := 1132) (q' := q_167) dd194_213 rfl rfl (rcv_m rfl rfl (by decide)) rfl rfl rfl (f167_ok (d := d) (by omega)  hq) ?_
                  rcases oite h with ⟨hc, h⟩ | ⟨hc, h⟩
                  · refine zUT dd194_216 rfl (kEqT hc) ?_
                    obtain rfl := ore0 h
                    exact zGo_ret dd194_250 rfl rfl
                  · refine zUF dd194_216 (kEqF hc) ?_
                    refine zGo_s (pc' := 220) (st' := [.ref 1132]) dd194_219 rfl ?_
                    obtain ⟨u19, hq, h⟩ := obn0 h
                    refine zCV0 (As := []) (rest := []) (b := 1132) (q' := q_164) dd194_220 rfl rfl (rcv_m rfl rfl (by decide)) rfl rfl rfl (f164_ok (d := d) (by omega)  hq) ?_
                    refine zGo_s (pc' := 224) (st' := [.ref 1132]) dd194_223 rfl ?_
                    obtain ⟨u20, hq, h⟩ := obn0 h
                    refine zCV0 (As := []) (rest := []) (b := 1132) (q' := q_191) dd194_224 rfl rfl (rcv_m rfl rfl (by decide)) rfl rfl rfl (f191_ok (d := d) (by omega) hg  hq) ?_
                    refine zGo_s (pc' := 228) (st' := [.ref 1132]) dd194_227 rfl ?_
                    refine zGo_s (pc' := 230) (st' := [.int (41 : Int32), .ref 1132]) dd194_228 rfl ?_
                    obtain ⟨u21, hq, h⟩ := obn0 h
                    refine zCV0 (As := [.int (41 : Int32)]) (rest := []) (b := 1132) (q' := q_179) dd194_230 rfl rfl (rcv_m rfl rfl (by decide)) rfl rfl rfl (f179_ok (d := d) (by omega)  hq) ?_
                    refine zGo_s (pc' := 234) (st' := [.ref 1132]) dd194_233 rfl ?_
                    refine zGo_s (pc' := 235) (st' := [.ref 1132, .ref 1132]) dd194_234 rfl ?_
                    refine mGI dd194_235 rfl rfl rfl rfl ?_
                    refine zGo_s (pc' := 239) (st' := [.int (1 : Int32), .int (u21.1 1132 14), .ref 1132]) dd194_238 rfl ?_
                    refine zGo_s (pc' := 240) (st' := [.int ((u21.1 1132 14) - (1 : Int32)), .ref 1132]) dd194_239 rfl ?_
                    obtain ⟨u22, e_u22, h⟩ := olet h
                    refine mPI dd194_240 rfl rfl rfl rfl rfl rfl e_u22 ?_
                    refine zGo_s (pc' := 250) (st' := []) dd194_243 rfl ?_
                    obtain rfl := ore0 h
                    exact zGo_ret dd194_250 rfl rfl
              · refine zUF dd194_153 (kEqF hc) ?_
                refine zGo_s (pc' := 157) (st' := [.ref 1132]) dd194_156 rfl ?_
                obtain ⟨u23, hq, h⟩ := obn0 h
                refine zCV0 (As := []) (rest := []) (b := 1132) (q' := q_195) dd194_157 rfl rfl (rcv_m rfl rfl (by decide)) rfl rfl rfl (f195_ok (d := d) (by omega)  hq) ?_
                refine zGo_s (pc' := 161) (st' := [.ref 1132]) dd194_160 rfl ?_
                obtain ⟨u24, hq, h⟩ := obn0 h
                refine zCV0 (As := []) (rest := []) (b := 1132) (q' := q_182) dd194_161 rfl rfl (rcv_m rfl rfl (by decide)) rfl rfl rfl (f182_ok (d := d) (by omega)  hq) ?_
                refine zGo_s (pc' := 165) (st' := [.ref 1132]) dd194_164 rfl ?_
                obtain ⟨v26, u25, hq, h⟩ := obnd h
                refine zCV1 (As := []) (rest := []) (b := 1132) (q' := q_167) dd194_165 rfl rfl (rcv_m rfl rfl (by decide)) rfl rfl rfl (f167_ok (d := d) (by omega)  hq) ?_
                rcases oite h with ⟨hc, h⟩ | ⟨hc, h⟩
                · refine zUT dd194_168 rfl (kEqT hc) ?_
                  obtain rfl := ore0 h
                  exact zGo_ret dd194_250 rfl rfl
                · refine zUF dd194_168 (kEqF hc) ?_
                  refine zGo_s (pc' := 172) (st' := [.ref 1132]) dd194_171 rfl ?_
                  obtain ⟨u27, hq, h⟩ := obn0 h
                  refine zCV0 (As := []) (rest := []) (b := 1132) (q' := q_164) dd194_172 rfl rfl (rcv_m rfl rfl (by decide)) rfl rfl rfl (f164_ok (d := d) (by omega)  hq) ?_
                  refine zGo_s (pc' := 176) (st' := [.ref 1132]) dd194_175 rfl ?_
                  obtain ⟨u28, hq, h⟩ := obn0 h
                  refine zCV0 (As := []) (rest := []) (b := 1132) (q' := q_194) dd194_176 rfl rfl (rcv_m rfl rfl (by decide)) rfl rfl rfl (hg _ _  hq (by omega)) ?_
                  refine zGo_s (pc' := 180) (st' := [.ref 1132]) dd194_179 rfl ?_
                  refine zGo_s (pc' := 181) (st' := [.ref 1132, .ref 1132]) dd194_180 rfl ?_
                  refine mGI dd194_181 rfl rfl rfl rfl ?_
                  refine zGo_s (pc' := 185) (st' := [.int (1 : Int32), .int (u28.1 1132 14), .ref 1132]) dd194_184 rfl ?_
                  refine zGo_s (pc' := 186) (st' := [.int ((u28.1 1132 14) - (1 : Int32)), .ref 1132]) dd194_185 rfl ?_
                  obtain ⟨u29, e_u29, h⟩ := olet h
                  refine mPI dd194_186 rfl rfl rfl rfl rfl rfl e_u29 ?_
                  refine zGo_s (pc' := 190) (st' := [.ref 1132]) dd194_189 rfl ?_
                  refine zGo_s (pc' := 192) (st' := [.int (6 : Int32), .ref 1132]) dd194_190 rfl ?_
                  refine zGo_s (pc' := 193) (st' := [.int (0 : Int32), .int (6 : Int32), .ref 1132]) dd194_192 rfl ?_
                  obtain ⟨u30, hq, h⟩ := obn0 h
                  refine zCV0 (As := [.int (6 : Int32), .int (0 : Int32)]) (rest := []) (b := 1132) (q' := q_196) dd194_193 rfl rfl (rcv_m rfl rfl (by decide)) rfl rfl rfl (f196_ok (d := d) (by omega)  hq) ?_
                  refine zGo_s (pc' := 250) (st' := []) dd194_196 rfl ?_
                  obtain rfl := ore0 h
                  exact zGo_ret dd194_250 rfl rfl
            · refine zUF dd194_127 (kEqF hc) ?_
              refine zGo_s (pc' := 131) (st' := [.ref 1132]) dd194_130 rfl ?_
              obtain ⟨u31, hq, h⟩ := obn0 h
              refine zCV0 (As := []) (rest := []) (b := 1132) (q' := q_195) dd194_131 rfl rfl (rcv_m rfl rfl (by decide)) rfl rfl rfl (f195_ok (d := d) (by omega)  hq) ?_
              refine zGo_s (pc' := 135) (st' := [.ref 1132]) dd194_134 rfl ?_
              obtain ⟨u32, hq, h⟩ := obn0 h
              refine zCV0 (As := []) (rest := []) (b := 1132) (q' := q_164) dd194_135 rfl rfl (rcv_m rfl rfl (by decide)) rfl rfl rfl (f164_ok (d := d) (by omega)  hq) ?_
              refine zGo_s (pc' := 139) (st' := [.ref 1132]) dd194_138 rfl ?_
              refine zGo_s (pc' := 140) (st' := [.int (4 : Int32), .ref 1132]) dd194_139 rfl ?_
              refine zGo_s (pc' := 141) (st' := [.int (0 : Int32), .int (4 : Int32), .ref 1132]) dd194_140 rfl ?_
              obtain ⟨u33, hq, h⟩ := obn0 h
              refine zCV0 (As := [.int (4 : Int32), .int (0 : Int32)]) (rest := []) (b := 1132) (q' := q_196) dd194_141 rfl rfl (rcv_m rfl rfl (by decide)) rfl rfl rfl (f196_ok (d := d) (by omega)  hq) ?_
              refine zGo_s (pc' := 250) (st' := []) dd194_144 rfl ?_
              obtain rfl := ore0 h
              exact zGo_ret dd194_250 rfl rfl
          · refine zUF dd194_71 (kEqF hc) ?_
            exact f194_74_ok hd hg h
        · refine zUT dd194_61 rfl (kNeT hc) ?_
          exact f194_74_ok hd hg h
      · refine zUF dd194_40 (kEqF hc) ?_
        refine zGo_s (pc' := 44) (st' := [.ref 1132]) dd194_43 rfl ?_
        obtain ⟨u34, hq, h⟩ := obn0 h
        refine zCV0 (As := []) (rest := []) (b := 1132) (q' := q_195) dd194_44 rfl rfl (rcv_m rfl rfl (by decide)) rfl rfl rfl (f195_ok (d := d) (by omega)  hq) ?_
        refine zGo_s (pc' := 48) (st' := [.ref 1132]) dd194_47 rfl ?_
        obtain ⟨u35, hq, h⟩ := obn0 h
        refine zCV0 (As := []) (rest := []) (b := 1132) (q' := q_197) dd194_48 rfl rfl (rcv_m rfl rfl (by decide)) rfl rfl rfl (f197_ok (d := d) (by omega) hg  hq) ?_
        refine zGo_s (pc' := 250) (st' := []) dd194_51 rfl ?_
        obtain rfl := ore0 h
        exact zGo_ret dd194_250 rfl rfl
def f194 (n : Nat) : Nat → zσ → Option zσ
  | 0, _ => none
  | k + 1, s => f194b n (f194 n k) s
theorem f194_all {n : Nat} : ∀ (k : Nat) (s : zσ) (s2 : zσ), f194 n k s = some s2 → ∀ {d : Nat}, 8 + 6 * (k + 1) ≤ d → ∀ {w : zσ} {fz : Bool} {L : Nat} {xs : Nat → Int32}, zGo (zX fz L xs) d q_194 (0, [(0, .ref 1132)], [], zmk w s, 0, 0) (none, zmk w s2, 0, 0) := by
  intro k
  induction k with
  | zero => intro s s2 h; cases h
  | succ k ih =>
    intro s s2 h d hd w fz L xs
    exact f194b_ok (Df := 8 + 6 * (k + 1)) (by omega) ih h
theorem f194_okk20 {n : Nat} : ∀ (s : zσ) (s2 : zσ), f194 n 20 s = some s2 → ∀ {d : Nat}, 134 ≤ d → ∀ {w : zσ} {fz : Bool} {L : Nat} {xs : Nat → Int32}, zGo (zX fz L xs) d q_194 (0, [(0, .ref 1132)], [], zmk w s, 0, 0) (none, zmk w s2, 0, 0) :=
  fun _ _ h _ hd _ _ _ _ => f194_all 20 _ _ h (by omega)
/-! PHModel.expression()I -/
theorem dd190_0 : decode cX13_expression 0 = .ok (.aload_n 0, 1) := by decide +kernel
theorem dd190_1 : decode cX13_expression 1 = .ok (.invokevirtual 223, 3) := by decide +kernel
theorem dd190_4 : decode cX13_expression 4 = .ok (.ifCond .ne 5, 3) := by decide +kernel
theorem dd190_7 : decode cX13_expression 7 = .ok (.iconst 0, 1) := by decide +kernel
theorem dd190_8 : decode cX13_expression 8 = .ok (.ireturn, 1) := by decide +kernel
theorem dd190_9 : decode cX13_expression 9 = .ok (.aload_n 0, 1) := by decide +kernel
theorem dd190_10 : decode cX13_expression 10 = .ok (.getfield 24, 3) := by decide +kernel
theorem dd190_13 : decode cX13_expression 13 = .ok (.getfield 291, 3) := by decide +kernel
theorem dd190_16 : decode cX13_expression 16 = .ok (.istore_n 1, 1) := by decide +kernel
theorem dd190_17 : decode cX13_expression 17 = .ok (.aload_n 0, 1) := by decide +kernel
theorem dd190_18 : decode cX13_expression 18 = .ok (.invokevirtual 297, 3) := by decide +kernel
theorem dd190_21 : decode cX13_expression 21 = .ok (.aload_n 0, 1) := by decide +kernel
theorem dd190_22 : decode cX13_expression 22 = .ok (.invokevirtual 223, 3) := by decide +kernel
theorem dd190_25 : decode cX13_expression 25 = .ok (.ifCond .eq 54, 3) := by decide +kernel
theorem dd190_28 : decode cX13_expression 28 = .ok (.aload_n 0, 1) := by decide +kernel
theorem dd190_29 : decode cX13_expression 29 = .ok (.getfield 24, 3) := by decide +kernel
theorem dd190_32 : decode cX13_expression 32 = .ok (.getfield 300, 3) := by decide +kernel
theorem dd190_35 : decode cX13_expression 35 = .ok (.aload_n 0, 1) := by decide +kernel
theorem dd190_36 : decode cX13_expression 36 = .ok (.getfield 24, 3) := by decide +kernel
theorem dd190_39 : decode cX13_expression 39 = .ok (.getfield 303, 3) := by decide +kernel
theorem dd190_42 : decode cX13_expression 42 = .ok (.iload_n 1, 1) := by decide +kernel
theorem dd190_43 : decode cX13_expression 43 = .ok (.iastore, 1) := by decide +kernel
theorem dd190_44 : decode cX13_expression 44 = .ok (.aload_n 0, 1) := by decide +kernel
theorem dd190_45 : decode cX13_expression 45 = .ok (.getfield 24, 3) := by decide +kernel
theorem dd190_48 : decode cX13_expression 48 = .ok (.getfield 306, 3) := by decide +kernel
theorem dd190_51 : decode cX13_expression 51 = .ok (.aload_n 0, 1) := by decide +kernel
theorem dd190_52 : decode cX13_expression 52 = .ok (.getfield 24, 3) := by decide +kernel
theorem dd190_55 : decode cX13_expression 55 = .ok (.getfield 303, 3) := by decide +kernel
theorem dd190_58 : decode cX13_expression 58 = .ok (.aload_n 0, 1) := by decide +kernel
theorem dd190_59 : decode cX13_expression 59 = .ok (.getfield 24, 3) := by decide +kernel
theorem dd190_62 : decode cX13_expression 62 = .ok (.getfield 291, 3) := by decide +kernel
theorem dd190_65 : decode cX13_expression 65 = .ok (.iastore, 1) := by decide +kernel
theorem dd190_66 : decode cX13_expression 66 = .ok (.aload_n 0, 1) := by decide +kernel
theorem dd190_67 : decode cX13_expression 67 = .ok (.getfield 24, 3) := by decide +kernel
theorem dd190_70 : decode cX13_expression 70 = .ok (.dup, 1) := by decide +kernel
theorem dd190_71 : decode cX13_expression 71 = .ok (.getfield 303, 3) := by decide +kernel
theorem dd190_74 : decode cX13_expression 74 = .ok (.iconst 1, 1) := by decide +kernel
theorem dd190_75 : decode cX13_expression 75 = .ok (.iadd, 1) := by decide +kernel
theorem dd190_76 : decode cX13_expression 76 = .ok (.putfield 303, 3) := by decide +kernel
theorem dd190_79 : decode cX13_expression 79 = .ok (.aload_n 0, 1) := by decide +kernel
theorem dd190_80 : decode cX13_expression 80 = .ok (.getfield 24, 3) := by decide +kernel
theorem dd190_83 : decode cX13_expression 83 = .ok (.getfield 303, 3) := by decide +kernel
theorem dd190_86 : decode cX13_expression 86 = .ok (.iconst 1, 1) := by decide +kernel
theorem dd190_87 : decode cX13_expression 87 = .ok (.isub, 1) := by decide +kernel
theorem dd190_88 : decode cX13_expression 88 = .ok (.ireturn, 1) := by decide +kernel
def f190_79 (n : Nat) (s : zσ) : Option (Int32 × zσ) :=
    zrd 12 (s.2.2 1132 12) fun a1 =>
    some (((s.1 a1 28) - (1 : Int32)), s)
set_option maxRecDepth 20000 in
theorem f190_79_ok {n d : Nat} {s : zσ} {v : Int32} {s2 : zσ} (hd : 138 ≤ d) (h : f190_79 n s = some (v, s2)) {w : zσ} {fz : Bool} {L : Nat} {xs : Nat → Int32} : zGo (zX fz L xs) d q_190 (79, [(0, .ref 1132)], [], zmk w s, 0, 0) (some (.int v), zmk w s2, 0, 0) := by
  obtain ⟨d, rfl⟩ : ∃ d0, d = d0 + 1 := ⟨d - 1, by omega⟩
  unfold f190_79 at h
  refine zGo_s (pc' := 80) (st' := [.ref 1132]) dd190_79 rfl ?_
  obtain ⟨a1, e_a1, c_a1, h⟩ := ordd h
  refine mGR dd190_80 rfl rfl rfl rfl e_a1 ?_
  refine mGI dd190_83 rfl (ck12_s c_a1).1 (ck12_s c_a1).2 rfl ?_
  refine zGo_s (pc' := 87) (st' := [.int (1 : Int32), .int (s.1 a1 28)]) dd190_86 rfl ?_
  refine zGo_s (pc' := 88) (st' := [.int ((s.1 a1 28) - (1 : Int32))]) dd190_87 rfl ?_
  obtain ⟨rfl, rfl⟩ := oret h
  exact zGo_ret dd190_88 rfl rfl
def f190 (n : Nat) (s : zσ) : Option (Int32 × zσ) :=
    yb1 (f167 n s) fun v2 u1 =>
    if v2 = (0 : Int32) then
    some ((0 : Int32), u1)
    else zrd 12 (u1.2.2 1132 12) fun a3 =>
    zlet ((u1.1 a3 31)) fun v4 =>
    yb0 (f191 n (f194 n 20) u1) fun u5 =>
    yb1 (f167 n u5) fun v7 u6 =>
    if v7 = (0 : Int32) then
    f190_79 n u6
    else zrd 12 (u6.2.2 1132 12) fun a8 =>
    zrd 12 (u6.2.2 1132 12) fun a9 =>
    if zin? (u6.1 a9 28) 401 = true then
    zlet (sI u6 (a8 + 25) (nx (u6.1 a9 28)) v4) fun u10 =>
    zrd 12 (u10.2.2 1132 12) fun a11 =>
    zrd 12 (u10.2.2 1132 12) fun a12 =>
    zrd 12 (u10.2.2 1132 12) fun a13 =>
    if zin? (u10.1 a12 28) 401 = true then
    zlet (sI u10 (a11 + 26) (nx (u10.1 a12 28)) (u10.1 a13 31)) fun u14 =>
    zrd 12 (u14.2.2 1132 12) fun a15 =>
    zlet (sI u14 a15 28 ((u14.1 a15 28) + (1 : Int32))) fun u16 =>
    f190_79 n u16
    else none
    else none
set_option maxRecDepth 20000 in
theorem f190_ok {n d : Nat} {s : zσ} {v : Int32} {s2 : zσ} (hd : 138 ≤ d) (h : f190 n s = some (v, s2)) {w : zσ} {fz : Bool} {L : Nat} {xs : Nat → Int32} : zGo (zX fz L xs) d q_190 (0, [(0, .ref 1132)], [], zmk w s, 0, 0) (some (.int v), zmk w s2, 0, 0) := by
  obtain ⟨d, rfl⟩ : ∃ d0, d = d0 + 1 := ⟨d - 1, by omega⟩
  unfold f190 at h
  refine zGo_s (pc' := 1) (st' := [.ref 1132]) dd190_0 rfl ?_
  obtain ⟨v2, u1, hq, h⟩ := obnd h
  refine zCV1 (As := []) (rest := []) (b := 1132) (q' := q_167) dd190_1 rfl rfl (rcv_m rfl rfl (by decide)) rfl rfl rfl (f167_ok (d := d) (by omega)  hq) ?_
  rcases oite h with ⟨hc, h⟩ | ⟨hc, h⟩
  · refine zUF dd190_4 (kNeF hc) ?_
    refine zGo_s (pc' := 8) (st' := [.int (0 : Int32)]) dd190_7 rfl ?_
    obtain ⟨rfl, rfl⟩ := oret h
    exact zGo_ret dd190_8 rfl rfl
  · refine zUT dd190_4 rfl (kNeT hc) ?_
    refine zGo_s (pc' := 10) (st' := [.ref 1132]) dd190_9 rfl ?_
    obtain ⟨a3, e_a3, c_a3, h⟩ := ordd h
    refine mGR dd190_10 rfl rfl rfl rfl e_a3 ?_
    refine mGI dd190_13 rfl (ck12_s c_a3).1 (ck12_s c_a3).2 rfl ?_
    obtain ⟨v4, e_v4, h⟩ := olet h
    refine zGo_is1 e_v4 dd190_16 (x' := (17, [(1, .int v4), (0, .ref 1132)], [], _, _, _)) rfl ?_
    refine zGo_s (pc' := 18) (st' := [.ref 1132]) dd190_17 rfl ?_
    obtain ⟨u5, hq, h⟩ := obn0 h
    refine zCV0 (As := []) (rest := []) (b := 1132) (q' := q_191) dd190_18 rfl rfl (rcv_m rfl rfl (by decide)) rfl rfl rfl (f191_ok (d := d) (Df := 134) (by omega) f194_okk20  hq) ?_
    refine zGo_s (pc' := 22) (st' := [.ref 1132]) dd190_21 rfl ?_
    obtain ⟨v7, u6, hq, h⟩ := obnd h
    refine zCV1 (As := []) (rest := []) (b := 1132) (q' := q_167) dd190_22 rfl rfl (rcv_m rfl rfl (by decide)) rfl rfl rfl (f167_ok (d := d) (by omega)  hq) ?_
    rcases oite h with ⟨hc, h⟩ | ⟨hc, h⟩
    · refine zUT dd190_25 rfl (kEqT hc) ?_
      exact zGo_lv (lv := [(0, .ref 1132)]) ⟨by simp, by simp, by simp⟩ (f190_79_ok hd h)
    · refine zUF dd190_25 (kEqF hc) ?_
      refine zGo_s (pc' := 29) (st' := [.ref 1132]) dd190_28 rfl ?_
      obtain ⟨a8, e_a8, c_a8, h⟩ := ordd h
      refine mGR dd190_29 rfl rfl rfl rfl e_a8 ?_
      refine mGF (e := (a8 + 25)) dd190_32 rfl (ck12_s c_a8).1 (ck12_s c_a8).2 rfl (cf12_29 c_a8).1 ?_
      refine zGo_s (pc' := 36) (st' := [.ref 1132, .ref (a8 + 25)]) dd190_35 rfl ?_
      obtain ⟨a9, e_a9, c_a9, h⟩ := ordd h
      refine mGR dd190_36 rfl rfl rfl rfl e_a9 ?_
      refine mGI dd190_39 rfl (ck12_s c_a9).1 (ck12_s c_a9).2 rfl ?_
      refine zGo_s (pc' := 43) (st' := [.int v4, .int (u6.1 a9 28), .ref (a8 + 25)]) dd190_42 rfl ?_
      obtain ⟨hi, h⟩ := ochk h
      obtain ⟨u10, e_u10, h⟩ := olet h
      refine mIS dd190_43 (cf12_29 c_a8).2.1 (cf12_29 c_a8).2.2 hi e_u10 ?_
      refine zGo_s (pc' := 45) (st' := [.ref 1132]) dd190_44 rfl ?_
      obtain ⟨a11, e_a11, c_a11, h⟩ := ordd h
      refine mGR dd190_45 rfl rfl rfl rfl e_a11 ?_
      refine mGF (e := (a11 + 26)) dd190_48 rfl (ck12_s c_a11).1 (ck12_s c_a11).2 rfl (cf12_30 c_a11).1 ?_
      refine zGo_s (pc' := 52) (st' := [.ref 1132, .ref (a11 + 26)]) dd190_51 rfl ?_
      obtain ⟨a12, e_a12, c_a12, h⟩ := ordd h
      refine mGR dd190_52 rfl rfl rfl rfl e_a12 ?_
      refine mGI dd190_55 rfl (ck12_s c_a12).1 (ck12_s c_a12).2 rfl ?_
      refine zGo_s (pc' := 59) (st' := [.ref 1132, .int (u10.1 a12 28), .ref (a11 + 26)]) dd190_58 rfl ?_
      obtain ⟨a13, e_a13, c_a13, h⟩ := ordd h
      refine mGR dd190_59 rfl rfl rfl rfl e_a13 ?_
      refine mGI dd190_62 rfl (ck12_s c_a13).1 (ck12_s c_a13).2 rfl ?_
      obtain ⟨hi, h⟩ := ochk h
      obtain ⟨u14, e_u14, h⟩ := olet h
      refine mIS dd190_65 (cf12_30 c_a11).2.1 (cf12_30 c_a11).2.2 hi e_u14 ?_
      refine zGo_s (pc' := 67) (st' := [.ref 1132]) dd190_66 rfl ?_
      obtain ⟨a15, e_a15, c_a15, h⟩ := ordd h
      refine mGR dd190_67 rfl rfl rfl rfl e_a15 ?_
      refine zGo_s (pc' := 71) (st' := [.ref a15, .ref a15]) dd190_70 rfl ?_
      refine mGI dd190_71 rfl (ck12_s c_a15).1 (ck12_s c_a15).2 rfl ?_
      refine zGo_s (pc' := 75) (st' := [.int (1 : Int32), .int (u14.1 a15 28), .ref a15]) dd190_74 rfl ?_
      refine zGo_s (pc' := 76) (st' := [.int ((u14.1 a15 28) + (1 : Int32)), .ref a15]) dd190_75 rfl ?_
      obtain ⟨u16, e_u16, h⟩ := olet h
      refine mPI dd190_76 rfl (ck12_s c_a15).1 (ck12_s c_a15).2 rfl rfl rfl e_u16 ?_
      exact zGo_lv (lv := [(0, .ref 1132)]) ⟨by simp, by simp, by simp⟩ (f190_79_ok hd h)
/-! PHModel.scheduled(II)V -/
theorem dd188_0 : decode cX13_scheduled 0 = .ok (.aload_n 0, 1) := by decide +kernel
theorem dd188_1 : decode cX13_scheduled 1 = .ok (.getfield 24, 3) := by decide +kernel
theorem dd188_4 : decode cX13_scheduled 4 = .ok (.astore_n 3, 1) := by decide +kernel
theorem dd188_5 : decode cX13_scheduled 5 = .ok (.aload_n 3, 1) := by decide +kernel
theorem dd188_6 : decode cX13_scheduled 6 = .ok (.getfield 447, 3) := by decide +kernel
theorem dd188_9 : decode cX13_scheduled 9 = .ok (.iload_n 1, 1) := by decide +kernel
theorem dd188_10 : decode cX13_scheduled 10 = .ok (.iload_n 2, 1) := by decide +kernel
theorem dd188_11 : decode cX13_scheduled 11 = .ok (.iastore, 1) := by decide +kernel
theorem dd188_12 : decode cX13_scheduled 12 = .ok (.aload_n 0, 1) := by decide +kernel
theorem dd188_13 : decode cX13_scheduled 13 = .ok (.invokevirtual 231, 3) := by decide +kernel
theorem dd188_16 : decode cX13_scheduled 16 = .ok (.iload_n 2, 1) := by decide +kernel
theorem dd188_17 : decode cX13_scheduled 17 = .ok (.iconst 4, 1) := by decide +kernel
theorem dd188_18 : decode cX13_scheduled 18 = .ok (.if_icmp .ne 17, 3) := by decide +kernel
theorem dd188_21 : decode cX13_scheduled 21 = .ok (.aload_n 3, 1) := by decide +kernel
theorem dd188_22 : decode cX13_scheduled 22 = .ok (.getfield 444, 3) := by decide +kernel
theorem dd188_25 : decode cX13_scheduled 25 = .ok (.iload_n 1, 1) := by decide +kernel
theorem dd188_26 : decode cX13_scheduled 26 = .ok (.aload_n 0, 1) := by decide +kernel
theorem dd188_27 : decode cX13_scheduled 27 = .ok (.iconst 4, 1) := by decide +kernel
theorem dd188_28 : decode cX13_scheduled 28 = .ok (.invokevirtual 333, 3) := by decide +kernel
theorem dd188_31 : decode cX13_scheduled 31 = .ok (.iastore, 1) := by decide +kernel
theorem dd188_32 : decode cX13_scheduled 32 = .ok (.goto 69, 3) := by decide +kernel
theorem dd188_35 : decode cX13_scheduled 35 = .ok (.aload_n 3, 1) := by decide +kernel
theorem dd188_36 : decode cX13_scheduled 36 = .ok (.getfield 469, 3) := by decide +kernel
theorem dd188_39 : decode cX13_scheduled 39 = .ok (.iconst 4, 1) := by decide +kernel
theorem dd188_40 : decode cX13_scheduled 40 = .ok (.iload_n 1, 1) := by decide +kernel
theorem dd188_41 : decode cX13_scheduled 41 = .ok (.imul, 1) := by decide +kernel
theorem dd188_42 : decode cX13_scheduled 42 = .ok (.aload_n 0, 1) := by decide +kernel
theorem dd188_43 : decode cX13_scheduled 43 = .ok (.invokevirtual 472, 3) := by decide +kernel
theorem dd188_46 : decode cX13_scheduled 46 = .ok (.iastore, 1) := by decide +kernel
theorem dd188_47 : decode cX13_scheduled 47 = .ok (.aload_n 3, 1) := by decide +kernel
theorem dd188_48 : decode cX13_scheduled 48 = .ok (.getfield 450, 3) := by decide +kernel
theorem dd188_51 : decode cX13_scheduled 51 = .ok (.iload_n 1, 1) := by decide +kernel
theorem dd188_52 : decode cX13_scheduled 52 = .ok (.iconst 1, 1) := by decide +kernel
theorem dd188_53 : decode cX13_scheduled 53 = .ok (.iastore, 1) := by decide +kernel
theorem dd188_54 : decode cX13_scheduled 54 = .ok (.aload_n 0, 1) := by decide +kernel
theorem dd188_55 : decode cX13_scheduled 55 = .ok (.invokevirtual 223, 3) := by decide +kernel
theorem dd188_58 : decode cX13_scheduled 58 = .ok (.ifCond .eq 43, 3) := by decide +kernel
theorem dd188_61 : decode cX13_scheduled 61 = .ok (.iload_n 2, 1) := by decide +kernel
theorem dd188_62 : decode cX13_scheduled 62 = .ok (.iconst 3, 1) := by decide +kernel
theorem dd188_63 : decode cX13_scheduled 63 = .ok (.if_icmp .ne 38, 3) := by decide +kernel
theorem dd188_66 : decode cX13_scheduled 66 = .ok (.aload_n 0, 1) := by decide +kernel
theorem dd188_67 : decode cX13_scheduled 67 = .ok (.ldc_w 475, 3) := by decide +kernel
theorem dd188_70 : decode cX13_scheduled 70 = .ok (.invokevirtual 328, 3) := by decide +kernel
theorem dd188_73 : decode cX13_scheduled 73 = .ok (.ifCond .eq 28, 3) := by decide +kernel
theorem dd188_76 : decode cX13_scheduled 76 = .ok (.aload_n 0, 1) := by decide +kernel
theorem dd188_77 : decode cX13_scheduled 77 = .ok (.invokevirtual 231, 3) := by decide +kernel
theorem dd188_80 : decode cX13_scheduled 80 = .ok (.aload_n 3, 1) := by decide +kernel
theorem dd188_81 : decode cX13_scheduled 81 = .ok (.getfield 469, 3) := by decide +kernel
theorem dd188_84 : decode cX13_scheduled 84 = .ok (.iconst 4, 1) := by decide +kernel
theorem dd188_85 : decode cX13_scheduled 85 = .ok (.iload_n 1, 1) := by decide +kernel
theorem dd188_86 : decode cX13_scheduled 86 = .ok (.imul, 1) := by decide +kernel
theorem dd188_87 : decode cX13_scheduled 87 = .ok (.iconst 1, 1) := by decide +kernel
theorem dd188_88 : decode cX13_scheduled 88 = .ok (.iadd, 1) := by decide +kernel
theorem dd188_89 : decode cX13_scheduled 89 = .ok (.aload_n 0, 1) := by decide +kernel
theorem dd188_90 : decode cX13_scheduled 90 = .ok (.invokevirtual 472, 3) := by decide +kernel
theorem dd188_93 : decode cX13_scheduled 93 = .ok (.iastore, 1) := by decide +kernel
theorem dd188_94 : decode cX13_scheduled 94 = .ok (.aload_n 3, 1) := by decide +kernel
theorem dd188_95 : decode cX13_scheduled 95 = .ok (.getfield 450, 3) := by decide +kernel
theorem dd188_98 : decode cX13_scheduled 98 = .ok (.iload_n 1, 1) := by decide +kernel
theorem dd188_99 : decode cX13_scheduled 99 = .ok (.iconst 2, 1) := by decide +kernel
theorem dd188_100 : decode cX13_scheduled 100 = .ok (.iastore, 1) := by decide +kernel
theorem dd188_101 : decode cX13_scheduled 101 = .ok (.aload_n 0, 1) := by decide +kernel
theorem dd188_102 : decode cX13_scheduled 102 = .ok (.invokevirtual 223, 3) := by decide +kernel
theorem dd188_105 : decode cX13_scheduled 105 = .ok (.ifCond .eq 69, 3) := by decide +kernel
theorem dd188_108 : decode cX13_scheduled 108 = .ok (.aload_n 0, 1) := by decide +kernel
theorem dd188_109 : decode cX13_scheduled 109 = .ok (.ldc_w 400, 3) := by decide +kernel
theorem dd188_112 : decode cX13_scheduled 112 = .ok (.invokevirtual 328, 3) := by decide +kernel
theorem dd188_115 : decode cX13_scheduled 115 = .ok (.ifCond .ne 13, 3) := by decide +kernel
theorem dd188_118 : decode cX13_scheduled 118 = .ok (.aload_n 0, 1) := by decide +kernel
theorem dd188_119 : decode cX13_scheduled 119 = .ok (.ldc_w 402, 3) := by decide +kernel
theorem dd188_122 : decode cX13_scheduled 122 = .ok (.invokevirtual 328, 3) := by decide +kernel
theorem dd188_125 : decode cX13_scheduled 125 = .ok (.ifCond .eq 45, 3) := by decide +kernel
theorem dd188_128 : decode cX13_scheduled 128 = .ok (.aload_n 3, 1) := by decide +kernel
theorem dd188_129 : decode cX13_scheduled 129 = .ok (.getfield 459, 3) := by decide +kernel
theorem dd188_132 : decode cX13_scheduled 132 = .ok (.iload_n 1, 1) := by decide +kernel
theorem dd188_133 : decode cX13_scheduled 133 = .ok (.aload_n 0, 1) := by decide +kernel
theorem dd188_134 : decode cX13_scheduled 134 = .ok (.ldc_w 400, 3) := by decide +kernel
theorem dd188_137 : decode cX13_scheduled 137 = .ok (.invokevirtual 328, 3) := by decide +kernel
theorem dd188_140 : decode cX13_scheduled 140 = .ok (.ifCond .eq 8, 3) := by decide +kernel
theorem dd188_143 : decode cX13_scheduled 143 = .ok (.bipush 16, 2) := by decide +kernel
theorem dd188_145 : decode cX13_scheduled 145 = .ok (.goto 5, 3) := by decide +kernel
theorem dd188_148 : decode cX13_scheduled 148 = .ok (.bipush 17, 2) := by decide +kernel
theorem dd188_150 : decode cX13_scheduled 150 = .ok (.iastore, 1) := by decide +kernel
theorem dd188_151 : decode cX13_scheduled 151 = .ok (.aload_n 0, 1) := by decide +kernel
theorem dd188_152 : decode cX13_scheduled 152 = .ok (.invokevirtual 231, 3) := by decide +kernel
theorem dd188_155 : decode cX13_scheduled 155 = .ok (.aload_n 3, 1) := by decide +kernel
theorem dd188_156 : decode cX13_scheduled 156 = .ok (.getfield 441, 3) := by decide +kernel
theorem dd188_159 : decode cX13_scheduled 159 = .ok (.iload_n 1, 1) := by decide +kernel
theorem dd188_160 : decode cX13_scheduled 160 = .ok (.aload_n 0, 1) := by decide +kernel
theorem dd188_161 : decode cX13_scheduled 161 = .ok (.bipush 8, 2) := by decide +kernel
theorem dd188_163 : decode cX13_scheduled 163 = .ok (.invokevirtual 333, 3) := by decide +kernel
theorem dd188_166 : decode cX13_scheduled 166 = .ok (.iastore, 1) := by decide +kernel
theorem dd188_167 : decode cX13_scheduled 167 = .ok (.goto 7, 3) := by decide +kernel
theorem dd188_170 : decode cX13_scheduled 170 = .ok (.aload_n 0, 1) := by decide +kernel
theorem dd188_171 : decode cX13_scheduled 171 = .ok (.invokevirtual 234, 3) := by decide +kernel
theorem dd188_174 : decode cX13_scheduled 174 = .ok (.return_, 1) := by decide +kernel
def f188_150 (n : Nat) (x1 : Int32) (x3 : Nat) (y0 : Int32) (y1 : Int32) (y2 : Nat) (s : zσ) : Option zσ :=
    if zin? y1 200 = true then
    zlet (sI s y2 (nx y1) y0) fun u1 =>
    yb0 (f164 n u1) fun u2 =>
    yb1 (f189 n (8 : Int32) u2) fun v4 u3 =>
    if zin? x1 200 = true then
    zlet (sI u3 (x3 + 17) (nx x1) v4) fun u5 =>
    some u5
    else none
    else none
set_option maxRecDepth 20000 in
theorem f188_150_ok {n d : Nat} {x1 : Int32} {x3 : Nat} {y0 : Int32} {y1 : Int32} {y2 : Nat} {s : zσ} {s2 : zσ} (hd : 139 ≤ d) (hx3 : zck 12 x3 = true) (hy2c : zms y2 = true) (hy2s : zsh y2 = (1, 0, 200)) (h : f188_150 n x1 x3 y0 y1 y2 s = some s2) {w : zσ} {fz : Bool} {L : Nat} {xs : Nat → Int32} : zGo (zX fz L xs) d q_188 (150, [(0, .ref 1132), (1, .int x1), (3, .ref x3)], [.int y0, .int y1, .ref y2], zmk w s, 0, 0) (none, zmk w s2, 0, 0) := by
  obtain ⟨d, rfl⟩ : ∃ d0, d = d0 + 1 := ⟨d - 1, by omega⟩
  unfold f188_150 at h
  obtain ⟨hi, h⟩ := ochk h
  obtain ⟨u1, e_u1, h⟩ := olet h
  refine mIS dd188_150 hy2c hy2s hi e_u1 ?_
  refine zGo_s (pc' := 152) (st' := [.ref 1132]) dd188_151 rfl ?_
  obtain ⟨u2, hq, h⟩ := obn0 h
  refine zCV0 (As := []) (rest := []) (b := 1132) (q' := q_164) dd188_152 rfl rfl (rcv_m rfl rfl (by decide)) rfl rfl rfl (f164_ok (d := d) (by omega)  hq) ?_
  refine zGo_s (pc' := 156) (st' := [.ref x3]) dd188_155 rfl ?_
  refine mGF (e := (x3 + 17)) dd188_156 rfl (ck12_s hx3).1 (ck12_s hx3).2 rfl (cf12_19 hx3).1 ?_
  refine zGo_s (pc' := 160) (st' := [.int x1, .ref (x3 + 17)]) dd188_159 rfl ?_
  refine zGo_s (pc' := 161) (st' := [.ref 1132, .int x1, .ref (x3 + 17)]) dd188_160 rfl ?_
  refine zGo_s (pc' := 163) (st' := [.int (8 : Int32), .ref 1132, .int x1, .ref (x3 + 17)]) dd188_161 rfl ?_
  obtain ⟨v4, u3, hq, h⟩ := obnd h
  refine zCV1 (As := [.int (8 : Int32)]) (rest := [.int x1, .ref (x3 + 17)]) (b := 1132) (q' := q_189) dd188_163 rfl rfl (rcv_m rfl rfl (by decide)) rfl rfl rfl (f189_ok (d := d) (by omega)  hq) ?_
  obtain ⟨hi, h⟩ := ochk h
  obtain ⟨u5, e_u5, h⟩ := olet h
  refine mIS dd188_166 (cf12_19 hx3).2.1 (cf12_19 hx3).2.2 hi e_u5 ?_
  refine zGo_s (pc' := 174) (st' := []) dd188_167 rfl ?_
  obtain rfl := ore0 h
  exact zGo_ret dd188_174 rfl rfl
def f188_128 (n : Nat) (x1 : Int32) (x3 : Nat) (s : zσ) : Option zσ :=
    yb1 (f170 n 32 s) fun v2 u1 =>
    if v2 = (0 : Int32) then
    f188_150 n x1 x3 (17 : Int32) x1 (x3 + 15) u1
    else f188_150 n x1 x3 (16 : Int32) x1 (x3 + 15) u1
set_option maxRecDepth 20000 in
theorem f188_128_ok {n d : Nat} {x1 : Int32} {x3 : Nat} {s : zσ} {s2 : zσ} (hd : 139 ≤ d) (hx3 : zck 12 x3 = true) (h : f188_128 n x1 x3 s = some s2) {w : zσ} {fz : Bool} {L : Nat} {xs : Nat → Int32} : zGo (zX fz L xs) d q_188 (128, [(0, .ref 1132), (1, .int x1), (3, .ref x3)], [], zmk w s, 0, 0) (none, zmk w s2, 0, 0) := by
  obtain ⟨d, rfl⟩ : ∃ d0, d = d0 + 1 := ⟨d - 1, by omega⟩
  unfold f188_128 at h
  refine zGo_s (pc' := 129) (st' := [.ref x3]) dd188_128 rfl ?_
  refine mGF (e := (x3 + 15)) dd188_129 rfl (ck12_s hx3).1 (ck12_s hx3).2 rfl (cf12_17 hx3).1 ?_
  refine zGo_s (pc' := 133) (st' := [.int x1, .ref (x3 + 15)]) dd188_132 rfl ?_
  refine zGo_s (pc' := 134) (st' := [.ref 1132, .int x1, .ref (x3 + 15)]) dd188_133 rfl ?_
  refine zGo_s (pc' := 137) (st' := [.ref 32, .ref 1132, .int x1, .ref (x3 + 15)]) dd188_134 rfl ?_
  obtain ⟨v2, u1, hq, h⟩ := obnd h
  refine zCV1 (As := [.ref 32]) (rest := [.int x1, .ref (x3 + 15)]) (b := 1132) (q' := q_170) dd188_137 rfl rfl (rcv_m rfl rfl (by decide)) rfl rfl rfl (f170_ok (d := d) (by omega) (by decide) hq) ?_
  rcases oite h with ⟨hc, h⟩ | ⟨hc, h⟩
  · refine zUT dd188_140 rfl (kEqT hc) ?_
    refine zGo_s (pc' := 150) (st' := [.int (17 : Int32), .int x1, .ref (x3 + 15)]) dd188_148 rfl ?_
    exact f188_150_ok hd hx3 (cf12_17 hx3).2.1 (cf12_17 hx3).2.2 h
  · refine zUF dd188_140 (kEqF hc) ?_
    refine zGo_s (pc' := 145) (st' := [.int (16 : Int32), .int x1, .ref (x3 + 15)]) dd188_143 rfl ?_
    refine zGo_s (pc' := 150) (st' := [.int (16 : Int32), .int x1, .ref (x3 + 15)]) dd188_145 rfl ?_
    exact f188_150_ok hd hx3 (cf12_17 hx3).2.1 (cf12_17 hx3).2.2 h
def f188_101 (n : Nat) (x1 : Int32) (x3 : Nat) (s : zσ) : Option zσ :=
    yb1 (f167 n s) fun v2 u1 =>
    if v2 = (0 : Int32) then
    some u1
    else yb1 (f170 n 32 u1) fun v4 u3 =>
    if v4 = (0 : Int32) then
    yb1 (f170 n 33 u3) fun v6 u5 =>
    if v6 = (0 : Int32) then
    yb0 (f172 n u5) fun u7 =>
    some u7
    else f188_128 n x1 x3 u5
    else f188_128 n x1 x3 u3
set_option maxRecDepth 20000 in
theorem f188_101_ok {n d : Nat} {x1 : Int32} {x3 : Nat} {s : zσ} {s2 : zσ} (hd : 139 ≤ d) (hx3 : zck 12 x3 = true) (h : f188_101 n x1 x3 s = some s2) {w : zσ} {fz : Bool} {L : Nat} {xs : Nat → Int32} : zGo (zX fz L xs) d q_188 (101, [(0, .ref 1132), (1, .int x1), (3, .ref x3)], [], zmk w s, 0, 0) (none, zmk w s2, 0, 0) := by
  obtain ⟨d, rfl⟩ : ∃ d0, d = d0 + 1 := ⟨d - 1, by omega⟩
  unfold f188_101 at h
  refine zGo_s (pc' := 102) (st' := [.ref 1132]) dd188_101 rfl ?_
  obtain ⟨v2, u1, hq, h⟩ := obnd h
  refine zCV1 (As := []) (rest := []) (b := 1132) (q' := q_167) dd188_102 rfl rfl (rcv_m rfl rfl (by decide)) rfl rfl rfl (f167_ok (d := d) (by omega)  hq) ?_
  rcases oite h with ⟨hc, h⟩ | ⟨hc, h⟩
  · refine zUT dd188_105 rfl (kEqT hc) ?_
    obtain rfl := ore0 h
    exact zGo_ret dd188_174 rfl rfl
  · refine zUF dd188_105 (kEqF hc) ?_
    refine zGo_s (pc' := 109) (st' := [.ref 1132]) dd188_108 rfl ?_
    refine zGo_s (pc' := 112) (st' := [.ref 32, .ref 1132]) dd188_109 rfl ?_
    obtain ⟨v4, u3, hq, h⟩ := obnd h
    refine zCV1 (As := [.ref 32]) (rest := []) (b := 1132) (q' := q_170) dd188_112 rfl rfl (rcv_m rfl rfl (by decide)) rfl rfl rfl (f170_ok (d := d) (by omega) (by decide) hq) ?_
    rcases oite h with ⟨hc, h⟩ | ⟨hc, h⟩
    · refine zUF dd188_115 (kNeF hc) ?_
      refine zGo_s (pc' := 119) (st' := [.ref 1132]) dd188_118 rfl ?_
      refine zGo_s (pc' := 122) (st' := [.ref 33, .ref 1132]) dd188_119 rfl ?_
      obtain ⟨v6, u5, hq, h⟩ := obnd h
      refine zCV1 (As := [.ref 33]) (rest := []) (b := 1132) (q' := q_170) dd188_122 rfl rfl (rcv_m rfl rfl (by decide)) rfl rfl rfl (f170_ok (d := d) (by omega) (by decide) hq) ?_
      rcases oite h with ⟨hc, h⟩ | ⟨hc, h⟩
      · refine zUT dd188_125 rfl (kEqT hc) ?_
        refine zGo_s (pc' := 171) (st' := [.ref 1132]) dd188_170 rfl ?_
        obtain ⟨u7, hq, h⟩ := obn0 h
        refine zCV0 (As := []) (rest := []) (b := 1132) (q' := q_172) dd188_171 rfl rfl (rcv_m rfl rfl (by decide)) rfl rfl rfl (f172_ok (d := d) (by omega)  hq) ?_
        obtain rfl := ore0 h
        exact zGo_ret dd188_174 rfl rfl
      · refine zUF dd188_125 (kEqF hc) ?_
        exact f188_128_ok hd hx3 h
    · refine zUT dd188_115 rfl (kNeT hc) ?_
      exact f188_128_ok hd hx3 h
def f188 (n : Nat) (x1 : Int32) (x2 : Int32) (s : zσ) : Option zσ :=
    zrd 12 (s.2.2 1132 12) fun a1 =>
    if zin? x1 200 = true then
    zlet (sI s (a1 + 19) (nx x1) x2) fun u2 =>
    yb0 (f164 n u2) fun u3 =>
    if x2 = (4 : Int32) then
    yb1 (f189 n (4 : Int32) u3) fun v18 u17 =>
    if zin? x1 200 = true then
    zlet (sI u17 (a1 + 18) (nx x1) v18) fun u19 =>
    f188_101 n x1 a1 u19
    else none
    else yb1 (f190 n u3) fun v5 u4 =>
    if zin? ((4 : Int32) * x1) 800 = true then
    zlet (sI u4 (a1 + 22) (nx ((4 : Int32) * x1)) v5) fun u6 =>
    if zin? x1 200 = true then
    zlet (sI u6 (a1 + 20) (nx x1) (1 : Int32)) fun u7 =>
    yb1 (f167 n u7) fun v9 u8 =>
    if v9 = (0 : Int32) then
    f188_101 n x1 a1 u8
    else if x2 = (3 : Int32) then
    yb1 (f170 n 48 u8) fun v11 u10 =>
    if v11 = (0 : Int32) then
    f188_101 n x1 a1 u10
    else yb0 (f164 n u10) fun u12 =>
    yb1 (f190 n u12) fun v14 u13 =>
    if zin? (((4 : Int32) * x1) + (1 : Int32)) 800 = true then
    zlet (sI u13 (a1 + 22) (nx (((4 : Int32) * x1) + (1 : Int32))) v14) fun u15 =>
    if zin? x1 200 = true then
    zlet (sI u15 (a1 + 20) (nx x1) (2 : Int32)) fun u16 =>
    f188_101 n x1 a1 u16
    else none
    else none
    else f188_101 n x1 a1 u8
    else none
    else none
    else none
set_option maxRecDepth 20000 in
theorem f188_ok {n d : Nat} {x1 : Int32} {x2 : Int32} {s : zσ} {s2 : zσ} (hd : 139 ≤ d) (h : f188 n x1 x2 s = some s2) {w : zσ} {fz : Bool} {L : Nat} {xs : Nat → Int32} : zGo (zX fz L xs) d q_188 (0, [(0, .ref 1132), (1, .int x1), (2, .int x2)], [], zmk w s, 0, 0) (none, zmk w s2, 0, 0) := by
  obtain ⟨d, rfl⟩ : ∃ d0, d = d0 + 1 := ⟨d - 1, by omega⟩
  unfold f188 at h
  refine zGo_s (pc' := 1) (st' := [.ref 1132]) dd188_0 rfl ?_
  obtain ⟨a1, e_a1, c_a1, h⟩ := ordd h
  refine mGR dd188_1 rfl rfl rfl rfl e_a1 ?_
  refine zGo_s (pc' := 5) (st' := []) (lv' := [(3, .ref a1), (0, .ref 1132), (1, .int x1), (2, .int x2)]) dd188_4 rfl ?_
  refine zGo_s (pc' := 6) (st' := [.ref a1]) dd188_5 rfl ?_
  refine mGF (e := (a1 + 19)) dd188_6 rfl (ck12_s c_a1).1 (ck12_s c_a1).2 rfl (cf12_21 c_a1).1 ?_
  refine zGo_s (pc' := 10) (st' := [.int x1, .ref (a1 + 19)]) dd188_9 rfl ?_
  refine zGo_s (pc' := 11) (st' := [.int x2, .int x1, .ref (a1 + 19)]) dd188_10 rfl ?_
  obtain ⟨hi, h⟩ := ochk h
  obtain ⟨u2, e_u2, h⟩ := olet h
  refine mIS dd188_11 (cf12_21 c_a1).2.1 (cf12_21 c_a1).2.2 hi e_u2 ?_
  refine zGo_s (pc' := 13) (st' := [.ref 1132]) dd188_12 rfl ?_
  obtain ⟨u3, hq, h⟩ := obn0 h
  refine zCV0 (As := []) (rest := []) (b := 1132) (q' := q_164) dd188_13 rfl rfl (rcv_m rfl rfl (by decide)) rfl rfl rfl (f164_ok (d := d) (by omega)  hq) ?_
  refine zGo_s (pc' := 17) (st' := [.int x2]) dd188_16 rfl ?_
  refine zGo_s (pc' := 18) (st' := [.int (4 : Int32), .int x2]) dd188_17 rfl ?_
  rcases oite h with ⟨hc, h⟩ | ⟨hc, h⟩
  · refine zIF dd188_18 (kNeF hc) ?_
    refine zGo_s (pc' := 22) (st' := [.ref a1]) dd188_21 rfl ?_
    refine mGF (e := (a1 + 18)) dd188_22 rfl (ck12_s c_a1).1 (ck12_s c_a1).2 rfl (cf12_20 c_a1).1 ?_
    refine zGo_s (pc' := 26) (st' := [.int x1, .ref (a1 + 18)]) dd188_25 rfl ?_
    refine zGo_s (pc' := 27) (st' := [.ref 1132, .int x1, .ref (a1 + 18)]) dd188_26 rfl ?_
    refine zGo_s (pc' := 28) (st' := [.int (4 : Int32), .ref 1132, .int x1, .ref (a1 + 18)]) dd188_27 rfl ?_
    obtain ⟨v18, u17, hq, h⟩ := obnd h
    refine zCV1 (As := [.int (4 : Int32)]) (rest := [.int x1, .ref (a1 + 18)]) (b := 1132) (q' := q_189) dd188_28 rfl rfl (rcv_m rfl rfl (by decide)) rfl rfl rfl (f189_ok (d := d) (by omega)  hq) ?_
    obtain ⟨hi, h⟩ := ochk h
    obtain ⟨u19, e_u19, h⟩ := olet h
    refine mIS dd188_31 (cf12_20 c_a1).2.1 (cf12_20 c_a1).2.2 hi e_u19 ?_
    refine zGo_s (pc' := 101) (st' := []) dd188_32 rfl ?_
    exact zGo_lv (lv := [(0, .ref 1132), (1, .int x1), (3, .ref a1)]) ⟨by simp, by simp, by simp⟩ (f188_101_ok hd c_a1 h)
  · refine zIT dd188_18 rfl (kNeT hc) ?_
    refine zGo_s (pc' := 36) (st' := [.ref a1]) dd188_35 rfl ?_
    refine mGF (e := (a1 + 22)) dd188_36 rfl (ck12_s c_a1).1 (ck12_s c_a1).2 rfl (cf12_24 c_a1).1 ?_
    refine zGo_s (pc' := 40) (st' := [.int (4 : Int32), .ref (a1 + 22)]) dd188_39 rfl ?_
    refine zGo_s (pc' := 41) (st' := [.int x1, .int (4 : Int32), .ref (a1 + 22)]) dd188_40 rfl ?_
    refine zGo_s (pc' := 42) (st' := [.int ((4 : Int32) * x1), .ref (a1 + 22)]) dd188_41 rfl ?_
    refine zGo_s (pc' := 43) (st' := [.ref 1132, .int ((4 : Int32) * x1), .ref (a1 + 22)]) dd188_42 rfl ?_
    obtain ⟨v5, u4, hq, h⟩ := obnd h
    refine zCV1 (As := []) (rest := [.int ((4 : Int32) * x1), .ref (a1 + 22)]) (b := 1132) (q' := q_190) dd188_43 rfl rfl (rcv_m rfl rfl (by decide)) rfl rfl rfl (f190_ok (d := d) (by omega)  hq) ?_
    obtain ⟨hi, h⟩ := ochk h
    obtain ⟨u6, e_u6, h⟩ := olet h
    refine mIS dd188_46 (cf12_24 c_a1).2.1 (cf12_24 c_a1).2.2 hi e_u6 ?_
    refine zGo_s (pc' := 48) (st' := [.ref a1]) dd188_47 rfl ?_
    refine mGF (e := (a1 + 20)) dd188_48 rfl (ck12_s c_a1).1 (ck12_s c_a1).2 rfl (cf12_22 c_a1).1 ?_
    refine zGo_s (pc' := 52) (st' := [.int x1, .ref (a1 + 20)]) dd188_51 rfl ?_
    refine zGo_s (pc' := 53) (st' := [.int (1 : Int32), .int x1, .ref (a1 + 20)]) dd188_52 rfl ?_
    obtain ⟨hi, h⟩ := ochk h
    obtain ⟨u7, e_u7, h⟩ := olet h
    refine mIS dd188_53 (cf12_22 c_a1).2.1 (cf12_22 c_a1).2.2 hi e_u7 ?_
    refine zGo_s (pc' := 55) (st' := [.ref 1132]) dd188_54 rfl ?_
    obtain ⟨v9, u8, hq, h⟩ := obnd h
    refine zCV1 (As := []) (rest := []) (b := 1132) (q' := q_167) dd188_55 rfl rfl (rcv_m rfl rfl (by decide)) rfl rfl rfl (f167_ok (d := d) (by omega)  hq) ?_
    rcases oite h with ⟨hc, h⟩ | ⟨hc, h⟩
    · refine zUT dd188_58 rfl (kEqT hc) ?_
      exact zGo_lv (lv := [(0, .ref 1132), (1, .int x1), (3, .ref a1)]) ⟨by simp, by simp, by simp⟩ (f188_101_ok hd c_a1 h)
    · refine zUF dd188_58 (kEqF hc) ?_
      refine zGo_s (pc' := 62) (st' := [.int x2]) dd188_61 rfl ?_
      refine zGo_s (pc' := 63) (st' := [.int (3 : Int32), .int x2]) dd188_62 rfl ?_
      rcases oite h with ⟨hc, h⟩ | ⟨hc, h⟩
      · refine zIF dd188_63 (kNeF hc) ?_
        refine zGo_s (pc' := 67) (st' := [.ref 1132]) dd188_66 rfl ?_
        refine zGo_s (pc' := 70) (st' := [.ref 48, .ref 1132]) dd188_67 rfl ?_
        obtain ⟨v11, u10, hq, h⟩ := obnd h
        refine zCV1 (As := [.ref 48]) (rest := []) (b := 1132) (q' := q_170) dd188_70 rfl rfl (rcv_m rfl rfl (by decide)) rfl rfl rfl (f170_ok (d := d) (by omega) (by decide) hq) ?_
        rcases oite h with ⟨hc, h⟩ | ⟨hc, h⟩
        · refine zUT dd188_73 rfl (kEqT hc) ?_
          exact zGo_lv (lv := [(0, .ref 1132), (1, .int x1), (3, .ref a1)]) ⟨by simp, by simp, by simp⟩ (f188_101_ok hd c_a1 h)
        · refine zUF dd188_73 (kEqF hc) ?_
          refine zGo_s (pc' := 77) (st' := [.ref 1132]) dd188_76 rfl ?_
          obtain ⟨u12, hq, h⟩ := obn0 h
          refine zCV0 (As := []) (rest := []) (b := 1132) (q' := q_164) dd188_77 rfl rfl (rcv_m rfl rfl (by decide)) rfl rfl rfl (f164_ok (d := d) (by omega)  hq) ?_
          refine zGo_s (pc' := 81) (st' := [.ref a1]) dd188_80 rfl ?_
          refine mGF (e := (a1 + 22)) dd188_81 rfl (ck12_s c_a1).1 (ck12_s c_a1).2 rfl (cf12_24 c_a1).1 ?_
          refine zGo_s (pc' := 85) (st' := [.int (4 : Int32), .ref (a1 + 22)]) dd188_84 rfl ?_
          refine zGo_s (pc' := 86) (st' := [.int x1, .int (4 : Int32), .ref (a1 + 22)]) dd188_85 rfl ?_
          refine zGo_s (pc' := 87) (st' := [.int ((4 : Int32) * x1), .ref (a1 + 22)]) dd188_86 rfl ?_
          refine zGo_s (pc' := 88) (st' := [.int (1 : Int32), .int ((4 : Int32) * x1), .ref (a1 + 22)]) dd188_87 rfl ?_
          refine zGo_s (pc' := 89) (st' := [.int (((4 : Int32) * x1) + (1 : Int32)), .ref (a1 + 22)]) dd188_88 rfl ?_
          refine zGo_s (pc' := 90) (st' := [.ref 1132, .int (((4 : Int32) * x1) + (1 : Int32)), .ref (a1 + 22)]) dd188_89 rfl ?_
          obtain ⟨v14, u13, hq, h⟩ := obnd h
          refine zCV1 (As := []) (rest := [.int (((4 : Int32) * x1) + (1 : Int32)), .ref (a1 + 22)]) (b := 1132) (q' := q_190) dd188_90 rfl rfl (rcv_m rfl rfl (by decide)) rfl rfl rfl (f190_ok (d := d) (by omega)  hq) ?_
          obtain ⟨hi, h⟩ := ochk h
          obtain ⟨u15, e_u15, h⟩ := olet h
          refine mIS dd188_93 (cf12_24 c_a1).2.1 (cf12_24 c_a1).2.2 hi e_u15 ?_
          refine zGo_s (pc' := 95) (st' := [.ref a1]) dd188_94 rfl ?_
          refine mGF (e := (a1 + 20)) dd188_95 rfl (ck12_s c_a1).1 (ck12_s c_a1).2 rfl (cf12_22 c_a1).1 ?_
          refine zGo_s (pc' := 99) (st' := [.int x1, .ref (a1 + 20)]) dd188_98 rfl ?_
          refine zGo_s (pc' := 100) (st' := [.int (2 : Int32), .int x1, .ref (a1 + 20)]) dd188_99 rfl ?_
          obtain ⟨hi, h⟩ := ochk h
          obtain ⟨u16, e_u16, h⟩ := olet h
          refine mIS dd188_100 (cf12_22 c_a1).2.1 (cf12_22 c_a1).2.2 hi e_u16 ?_
          exact zGo_lv (lv := [(0, .ref 1132), (1, .int x1), (3, .ref a1)]) ⟨by simp, by simp, by simp⟩ (f188_101_ok hd c_a1 h)
      · refine zIT dd188_63 rfl (kNeT hc) ?_
        exact zGo_lv (lv := [(0, .ref 1132), (1, .int x1), (3, .ref a1)]) ⟨by simp, by simp, by simp⟩ (f188_101_ok hd c_a1 h)
/-! PHModel.canBeginE()Z -/
theorem dd200_0 : decode cX13_canBeginE 0 = .ok (.aload_n 0, 1) := by decide +kernel
theorem dd200_1 : decode cX13_canBeginE 1 = .ok (.getfield 179, 3) := by decide +kernel
theorem dd200_4 : decode cX13_canBeginE 4 = .ok (.iconst 2, 1) := by decide +kernel
theorem dd200_5 : decode cX13_canBeginE 5 = .ok (.if_icmp .eq 58, 3) := by decide +kernel
theorem dd200_8 : decode cX13_canBeginE 8 = .ok (.aload_n 0, 1) := by decide +kernel
theorem dd200_9 : decode cX13_canBeginE 9 = .ok (.invokevirtual 246, 3) := by decide +kernel
theorem dd200_12 : decode cX13_canBeginE 12 = .ok (.ifCond .ne 51, 3) := by decide +kernel
theorem dd200_15 : decode cX13_canBeginE 15 = .ok (.aload_n 0, 1) := by decide +kernel
theorem dd200_16 : decode cX13_canBeginE 16 = .ok (.ldc_w 326, 3) := by decide +kernel
theorem dd200_19 : decode cX13_canBeginE 19 = .ok (.invokevirtual 328, 3) := by decide +kernel
theorem dd200_22 : decode cX13_canBeginE 22 = .ok (.ifCond .ne 41, 3) := by decide +kernel
theorem dd200_25 : decode cX13_canBeginE 25 = .ok (.aload_n 0, 1) := by decide +kernel
theorem dd200_26 : decode cX13_canBeginE 26 = .ok (.ldc_w 332, 3) := by decide +kernel
theorem dd200_29 : decode cX13_canBeginE 29 = .ok (.invokevirtual 328, 3) := by decide +kernel
theorem dd200_32 : decode cX13_canBeginE 32 = .ok (.ifCond .ne 31, 3) := by decide +kernel
theorem dd200_35 : decode cX13_canBeginE 35 = .ok (.aload_n 0, 1) := by decide +kernel
theorem dd200_36 : decode cX13_canBeginE 36 = .ok (.ldc_w 336, 3) := by decide +kernel
theorem dd200_39 : decode cX13_canBeginE 39 = .ok (.invokevirtual 328, 3) := by decide +kernel
theorem dd200_42 : decode cX13_canBeginE 42 = .ok (.ifCond .ne 21, 3) := by decide +kernel
theorem dd200_45 : decode cX13_canBeginE 45 = .ok (.aload_n 0, 1) := by decide +kernel
theorem dd200_46 : decode cX13_canBeginE 46 = .ok (.bipush 45, 2) := by decide +kernel
theorem dd200_48 : decode cX13_canBeginE 48 = .ok (.invokevirtual 227, 3) := by decide +kernel
theorem dd200_51 : decode cX13_canBeginE 51 = .ok (.ifCond .ne 12, 3) := by decide +kernel
theorem dd200_54 : decode cX13_canBeginE 54 = .ok (.aload_n 0, 1) := by decide +kernel
theorem dd200_55 : decode cX13_canBeginE 55 = .ok (.bipush 40, 2) := by decide +kernel
theorem dd200_57 : decode cX13_canBeginE 57 = .ok (.invokevirtual 227, 3) := by decide +kernel
theorem dd200_60 : decode cX13_canBeginE 60 = .ok (.ifCond .eq 7, 3) := by decide +kernel
theorem dd200_63 : decode cX13_canBeginE 63 = .ok (.iconst 1, 1) := by decide +kernel
theorem dd200_64 : decode cX13_canBeginE 64 = .ok (.goto 4, 3) := by decide +kernel
theorem dd200_67 : decode cX13_canBeginE 67 = .ok (.iconst 0, 1) := by decide +kernel
theorem dd200_68 : decode cX13_canBeginE 68 = .ok (.ireturn, 1) := by decide +kernel
def f200_63 (n : Nat) (s : zσ) : Option (Int32 × zσ) :=
    some ((1 : Int32), s)
set_option maxRecDepth 20000 in
theorem f200_63_ok {n d : Nat} {s : zσ} {v : Int32} {s2 : zσ} (hd : 6 ≤ d) (h : f200_63 n s = some (v, s2)) {w : zσ} {fz : Bool} {L : Nat} {xs : Nat → Int32} : zGo (zX fz L xs) d q_200 (63, [], [], zmk w s, 0, 0) (some (.int v), zmk w s2, 0, 0) := by
  obtain ⟨d, rfl⟩ : ∃ d0, d = d0 + 1 := ⟨d - 1, by omega⟩
  unfold f200_63 at h
  refine zGo_s (pc' := 64) (st' := [.int (1 : Int32)]) dd200_63 rfl ?_
  refine zGo_s (pc' := 68) (st' := [.int (1 : Int32)]) dd200_64 rfl ?_
  obtain ⟨rfl, rfl⟩ := oret h
  exact zGo_ret dd200_68 rfl rfl
def f200 (n : Nat) (s : zσ) : Option (Int32 × zσ) :=
    if (s.1 1132 3) = (2 : Int32) then
    f200_63 n s
    else yb1 (f175 n s) fun v2 u1 =>
    if v2 = (0 : Int32) then
    yb1 (f170 n 45 u1) fun v4 u3 =>
    if v4 = (0 : Int32) then
    yb1 (f170 n 46 u3) fun v6 u5 =>
    if v6 = (0 : Int32) then
    yb1 (f170 n 47 u5) fun v8 u7 =>
    if v8 = (0 : Int32) then
    yb1 (f177 n (45 : Int32) u7) fun v10 u9 =>
    if v10 = (0 : Int32) then
    yb1 (f177 n (40 : Int32) u9) fun v12 u11 =>
    if v12 = (0 : Int32) then
    some ((0 : Int32), u11)
    else f200_63 n u11
    else f200_63 n u9
    else f200_63 n u7
    else f200_63 n u5
    else f200_63 n u3
    else f200_63 n u1
set_option maxRecDepth 20000 in
theorem f200_ok {n d : Nat} {s : zσ} {v : Int32} {s2 : zσ} (hd : 6 ≤ d) (h : f200 n s = some (v, s2)) {w : zσ} {fz : Bool} {L : Nat} {xs : Nat → Int32} : zGo (zX fz L xs) d q_200 (0, [(0, .ref 1132)], [], zmk w s, 0, 0) (some (.int v), zmk w s2, 0, 0) := by
  obtain ⟨d, rfl⟩ : ∃ d0, d = d0 + 1 := ⟨d - 1, by omega⟩
  unfold f200 at h
  refine zGo_s (pc' := 1) (st' := [.ref 1132]) dd200_0 rfl ?_
  refine mGI dd200_1 rfl rfl rfl rfl ?_
  refine zGo_s (pc' := 5) (st' := [.int (2 : Int32), .int (s.1 1132 3)]) dd200_4 rfl ?_
  rcases oite h with ⟨hc, h⟩ | ⟨hc, h⟩
  · refine zIT dd200_5 rfl (kEqT hc) ?_
    exact zGo_lv (lv := []) ⟨by simp, by simp, by simp⟩ (f200_63_ok hd h)
  · refine zIF dd200_5 (kEqF hc) ?_
    refine zGo_s (pc' := 9) (st' := [.ref 1132]) dd200_8 rfl ?_
    obtain ⟨v2, u1, hq, h⟩ := obnd h
    refine zCV1 (As := []) (rest := []) (b := 1132) (q' := q_175) dd200_9 rfl rfl (rcv_m rfl rfl (by decide)) rfl rfl rfl (f175_ok (d := d) (by omega)  hq) ?_
    rcases oite h with ⟨hc, h⟩ | ⟨hc, h⟩
    · refine zUF dd200_12 (kNeF hc) ?_
      refine zGo_s (pc' := 16) (st' := [.ref 1132]) dd200_15 rfl ?_
      refine zGo_s (pc' := 19) (st' := [.ref 45, .ref 1132]) dd200_16 rfl ?_
      obtain ⟨v4, u3, hq, h⟩ := obnd h
      refine zCV1 (As := [.ref 45]) (rest := []) (b := 1132) (q' := q_170) dd200_19 rfl rfl (rcv_m rfl rfl (by decide)) rfl rfl rfl (f170_ok (d := d) (by omega) (by decide) hq) ?_
      rcases oite h with ⟨hc, h⟩ | ⟨hc, h⟩
      · refine zUF dd200_22 (kNeF hc) ?_
        refine zGo_s (pc' := 26) (st' := [.ref 1132]) dd200_25 rfl ?_
        refine zGo_s (pc' := 29) (st' := [.ref 46, .ref 1132]) dd200_26 rfl ?_
        obtain ⟨v6, u5, hq, h⟩ := obnd h
        refine zCV1 (As := [.ref 46]) (rest := []) (b := 1132) (q' := q_170) dd200_29 rfl rfl (rcv_m rfl rfl (by decide)) rfl rfl rfl (f170_ok (d := d) (by omega) (by decide) hq) ?_
        rcases oite h with ⟨hc, h⟩ | ⟨hc, h⟩
        · refine zUF dd200_32 (kNeF hc) ?_
          refine zGo_s (pc' := 36) (st' := [.ref 1132]) dd200_35 rfl ?_
          refine zGo_s (pc' := 39) (st' := [.ref 47, .ref 1132]) dd200_36 rfl ?_
          obtain ⟨v8, u7, hq, h⟩ := obnd h
          refine zCV1 (As := [.ref 47]) (rest := []) (b := 1132) (q' := q_170) dd200_39 rfl rfl (rcv_m rfl rfl (by decide)) rfl rfl rfl (f170_ok (d := d) (by omega) (by decide) hq) ?_
          rcases oite h with ⟨hc, h⟩ | ⟨hc, h⟩
          · refine zUF dd200_42 (kNeF hc) ?_
            refine zGo_s (pc' := 46) (st' := [.ref 1132]) dd200_45 rfl ?_
            refine zGo_s (pc' := 48) (st' := [.int (45 : Int32), .ref 1132]) dd200_46 rfl ?_
            obtain ⟨v10, u9, hq, h⟩ := obnd h
            refine zCV1 (As := [.int (45 : Int32)]) (rest := []) (b := 1132) (q' := q_177) dd200_48 rfl rfl (rcv_m rfl rfl (by decide)) rfl rfl rfl (f177_ok (d := d) (by omega)  hq) ?_
            rcases oite h with ⟨hc, h⟩ | ⟨hc, h⟩
            · refine zUF dd200_51 (kNeF hc) ?_
              refine zGo_s (pc' := 55) (st' := [.ref 1132]) dd200_54 rfl ?_
              refine zGo_s (pc' := 57) (st' := [.int (40 : Int32), .ref 1132]) dd200_55 rfl ?_
              obtain ⟨v12, u11, hq, h⟩ := obnd h
              refine zCV1 (As := [.int (40 : Int32)]) (rest := []) (b := 1132) (q' := q_177) dd200_57 rfl rfl (rcv_m rfl rfl (by decide)) rfl rfl rfl (f177_ok (d := d) (by omega)  hq) ?_
              rcases oite h with ⟨hc, h⟩ | ⟨hc, h⟩
              · refine zUT dd200_60 rfl (kEqT hc) ?_
                refine zGo_s (pc' := 68) (st' := [.int (0 : Int32)]) dd200_67 rfl ?_
                obtain ⟨rfl, rfl⟩ := oret h
                exact zGo_ret dd200_68 rfl rfl
              · refine zUF dd200_60 (kEqF hc) ?_
                exact zGo_lv (lv := []) ⟨by simp, by simp, by simp⟩ (f200_63_ok hd h)
            · refine zUT dd200_51 rfl (kNeT hc) ?_
              exact zGo_lv (lv := []) ⟨by simp, by simp, by simp⟩ (f200_63_ok hd h)
          · refine zUT dd200_42 rfl (kNeT hc) ?_
            exact zGo_lv (lv := []) ⟨by simp, by simp, by simp⟩ (f200_63_ok hd h)
        · refine zUT dd200_32 rfl (kNeT hc) ?_
          exact zGo_lv (lv := []) ⟨by simp, by simp, by simp⟩ (f200_63_ok hd h)
      · refine zUT dd200_22 rfl (kNeT hc) ?_
        exact zGo_lv (lv := []) ⟨by simp, by simp, by simp⟩ (f200_63_ok hd h)
    · refine zUT dd200_12 rfl (kNeT hc) ?_
      exact zGo_lv (lv := []) ⟨by simp, by simp, by simp⟩ (f200_63_ok hd h)
