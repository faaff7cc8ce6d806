/-! PH$Machine.ringed(I)I -/
theorem dd152_0 : decode cX3_ringed 0 = .ok (.iconst 0, 1) := by decide +kernel
theorem dd152_1 : decode cX3_ringed 1 = .ok (.istore_n 2, 1) := by decide +kernel
theorem dd152_2 : decode cX3_ringed 2 = .ok (.iload_n 2, 1) := by decide +kernel
theorem dd152_3 : decode cX3_ringed 3 = .ok (.aload_n 0, 1) := by decide +kernel
theorem dd152_4 : decode cX3_ringed 4 = .ok (.getfield 71, 3) := by decide +kernel
theorem dd152_7 : decode cX3_ringed 7 = .ok (.if_icmp .ge 25, 3) := by decide +kernel
theorem dd152_10 : decode cX3_ringed 10 = .ok (.aload_n 0, 1) := by decide +kernel
theorem dd152_11 : decode cX3_ringed 11 = .ok (.getfield 52, 3) := by decide +kernel
theorem dd152_14 : decode cX3_ringed 14 = .ok (.iload_n 2, 1) := by decide +kernel
theorem dd152_15 : decode cX3_ringed 15 = .ok (.aload_n 0, 1) := by decide +kernel
theorem dd152_16 : decode cX3_ringed 16 = .ok (.aload_n 0, 1) := by decide +kernel
theorem dd152_17 : decode cX3_ringed 17 = .ok (.getfield 11, 3) := by decide +kernel
theorem dd152_20 : decode cX3_ringed 20 = .ok (.iload_n 2, 1) := by decide +kernel
theorem dd152_21 : decode cX3_ringed 21 = .ok (.aaload, 1) := by decide +kernel
theorem dd152_22 : decode cX3_ringed 22 = .ok (.invokevirtual 437, 3) := by decide +kernel
theorem dd152_25 : decode cX3_ringed 25 = .ok (.iastore, 1) := by decide +kernel
theorem dd152_26 : decode cX3_ringed 26 = .ok (.iinc 2 1, 3) := by decide +kernel
theorem dd152_29 : decode cX3_ringed 29 = .ok (.goto (-27), 3) := by decide +kernel
theorem dd152_32 : decode cX3_ringed 32 = .ok (.iconst 0, 1) := by decide +kernel
theorem dd152_33 : decode cX3_ringed 33 = .ok (.istore_n 2, 1) := by decide +kernel
theorem dd152_34 : decode cX3_ringed 34 = .ok (.iload_n 2, 1) := by decide +kernel
theorem dd152_35 : decode cX3_ringed 35 = .ok (.aload_n 0, 1) := by decide +kernel
theorem dd152_36 : decode cX3_ringed 36 = .ok (.getfield 71, 3) := by decide +kernel
theorem dd152_39 : decode cX3_ringed 39 = .ok (.if_icmp .ge 54, 3) := by decide +kernel
theorem dd152_42 : decode cX3_ringed 42 = .ok (.iconst 0, 1) := by decide +kernel
theorem dd152_43 : decode cX3_ringed 43 = .ok (.istore_n 3, 1) := by decide +kernel
theorem dd152_44 : decode cX3_ringed 44 = .ok (.iload_n 3, 1) := by decide +kernel
theorem dd152_45 : decode cX3_ringed 45 = .ok (.aload_n 0, 1) := by decide +kernel
theorem dd152_46 : decode cX3_ringed 46 = .ok (.getfield 71, 3) := by decide +kernel
theorem dd152_49 : decode cX3_ringed 49 = .ok (.if_icmp .ge 38, 3) := by decide +kernel
theorem dd152_52 : decode cX3_ringed 52 = .ok (.aload_n 0, 1) := by decide +kernel
theorem dd152_53 : decode cX3_ringed 53 = .ok (.getfield 52, 3) := by decide +kernel
theorem dd152_56 : decode cX3_ringed 56 = .ok (.iload_n 3, 1) := by decide +kernel
theorem dd152_57 : decode cX3_ringed 57 = .ok (.iaload, 1) := by decide +kernel
theorem dd152_58 : decode cX3_ringed 58 = .ok (.iload_n 2, 1) := by decide +kernel
theorem dd152_59 : decode cX3_ringed 59 = .ok (.ishr, 1) := by decide +kernel
theorem dd152_60 : decode cX3_ringed 60 = .ok (.iconst 1, 1) := by decide +kernel
theorem dd152_61 : decode cX3_ringed 61 = .ok (.iand, 1) := by decide +kernel
theorem dd152_62 : decode cX3_ringed 62 = .ok (.iconst 1, 1) := by decide +kernel
theorem dd152_63 : decode cX3_ringed 63 = .ok (.if_icmp .ne 18, 3) := by decide +kernel
theorem dd152_66 : decode cX3_ringed 66 = .ok (.aload_n 0, 1) := by decide +kernel
theorem dd152_67 : decode cX3_ringed 67 = .ok (.getfield 52, 3) := by decide +kernel
theorem dd152_70 : decode cX3_ringed 70 = .ok (.iload_n 3, 1) := by decide +kernel
theorem dd152_71 : decode cX3_ringed 71 = .ok (.dup2, 1) := by decide +kernel
theorem dd152_72 : decode cX3_ringed 72 = .ok (.iaload, 1) := by decide +kernel
theorem dd152_73 : decode cX3_ringed 73 = .ok (.aload_n 0, 1) := by decide +kernel
theorem dd152_74 : decode cX3_ringed 74 = .ok (.getfield 52, 3) := by decide +kernel
theorem dd152_77 : decode cX3_ringed 77 = .ok (.iload_n 2, 1) := by decide +kernel
theorem dd152_78 : decode cX3_ringed 78 = .ok (.iaload, 1) := by decide +kernel
theorem dd152_79 : decode cX3_ringed 79 = .ok (.ior, 1) := by decide +kernel
theorem dd152_80 : decode cX3_ringed 80 = .ok (.iastore, 1) := by decide +kernel
theorem dd152_81 : decode cX3_ringed 81 = .ok (.iinc 3 1, 3) := by decide +kernel
theorem dd152_84 : decode cX3_ringed 84 = .ok (.goto (-40), 3) := by decide +kernel
theorem dd152_87 : decode cX3_ringed 87 = .ok (.iinc 2 1, 3) := by decide +kernel
theorem dd152_90 : decode cX3_ringed 90 = .ok (.goto (-56), 3) := by decide +kernel
theorem dd152_93 : decode cX3_ringed 93 = .ok (.iconst 0, 1) := by decide +kernel
theorem dd152_94 : decode cX3_ringed 94 = .ok (.istore_n 2, 1) := by decide +kernel
theorem dd152_95 : decode cX3_ringed 95 = .ok (.iconst 0, 1) := by decide +kernel
theorem dd152_96 : decode cX3_ringed 96 = .ok (.istore_n 3, 1) := by decide +kernel
theorem dd152_97 : decode cX3_ringed 97 = .ok (.iload_n 3, 1) := by decide +kernel
theorem dd152_98 : decode cX3_ringed 98 = .ok (.aload_n 0, 1) := by decide +kernel
theorem dd152_99 : decode cX3_ringed 99 = .ok (.getfield 71, 3) := by decide +kernel
theorem dd152_102 : decode cX3_ringed 102 = .ok (.if_icmp .ge 33, 3) := by decide +kernel
theorem dd152_105 : decode cX3_ringed 105 = .ok (.aload_n 0, 1) := by decide +kernel
theorem dd152_106 : decode cX3_ringed 106 = .ok (.getfield 52, 3) := by decide +kernel
theorem dd152_109 : decode cX3_ringed 109 = .ok (.iload_n 3, 1) := by decide +kernel
theorem dd152_110 : decode cX3_ringed 110 = .ok (.iaload, 1) := by decide +kernel
theorem dd152_111 : decode cX3_ringed 111 = .ok (.iload_n 3, 1) := by decide +kernel
theorem dd152_112 : decode cX3_ringed 112 = .ok (.ishr, 1) := by decide +kernel
theorem dd152_113 : decode cX3_ringed 113 = .ok (.iconst 1, 1) := by decide +kernel
theorem dd152_114 : decode cX3_ringed 114 = .ok (.iand, 1) := by decide +kernel
theorem dd152_115 : decode cX3_ringed 115 = .ok (.iconst 1, 1) := by decide +kernel
theorem dd152_116 : decode cX3_ringed 116 = .ok (.if_icmp .ne 13, 3) := by decide +kernel
theorem dd152_119 : decode cX3_ringed 119 = .ok (.iload_n 2, 1) := by decide +kernel
theorem dd152_120 : decode cX3_ringed 120 = .ok (.iload_n 1, 1) := by decide +kernel
theorem dd152_121 : decode cX3_ringed 121 = .ok (.if_icmp .ne 5, 3) := by decide +kernel
theorem dd152_124 : decode cX3_ringed 124 = .ok (.iload_n 3, 1) := by decide +kernel
theorem dd152_125 : decode cX3_ringed 125 = .ok (.ireturn, 1) := by decide +kernel
theorem dd152_126 : decode cX3_ringed 126 = .ok (.iinc 2 1, 3) := by decide +kernel
theorem dd152_129 : decode cX3_ringed 129 = .ok (.iinc 3 1, 3) := by decide +kernel
theorem dd152_132 : decode cX3_ringed 132 = .ok (.goto (-35), 3) := by decide +kernel
theorem dd152_135 : decode cX3_ringed 135 = .ok (.iconst (-1), 1) := by decide +kernel
theorem dd152_136 : decode cX3_ringed 136 = .ok (.ireturn, 1) := by decide +kernel
def f152_129 (n : Nat) (r97 : Int32 → Int32 → Int32 → zσ → Option (Int32 × zσ)) (x1 : Int32) (x2 : Int32) (x3 : Int32) (s : zσ) : Option (Int32 × zσ) :=
    r97 x1 x2 (x3 + (1 : Int32)) s
set_option maxRecDepth 20000 in
theorem f152_129_ok {n d : Nat} {r97 : Int32 → Int32 → Int32 → zσ → Option (Int32 × zσ)} {x1 : Int32} {x2 : Int32} {x3 : Int32} {s : zσ} {v : Int32} {s2 : zσ} (hd : 2 ≤ d) (hr97 : ∀ (x1 : Int32) (x2 : Int32) (x3 : Int32) (s : zσ) (v : Int32) (s2 : zσ), r97 x1 x2 x3 s = some (v, s2) → ∀ {w : zσ} {fz : Bool} {L : Nat} {xs : Nat → Int32}, zGo (zX fz L xs) d q_152 (97, [(0, .ref 1007), (1, .int x1), (2, .int x2), (3, .int x3)], [], zmk s w, 0, 0) (some (.int v), zmk s2 w, 0, 0)) (h : f152_129 n r97 x1 x2 x3 s = some (v, s2)) {w : zσ} {fz : Bool} {L : Nat} {xs : Nat → Int32} : zGo (zX fz L xs) d q_152 (129, [(0, .ref 1007), (1, .int x1), (2, .int x2), (3, .int x3)], [], zmk s w, 0, 0) (some (.int v), zmk s2 w, 0, 0) := by
  obtain ⟨d, rfl⟩ : ∃ d0, d = d0 + 1 := ⟨d - 1, by omega⟩
  unfold f152_129 at h
  refine zGo_s (pc' := 132) (st' := []) (lv' := [(3, .int (x3 + (1 : Int32))), (0, .ref 1007), (1, .int x1), (2, .int x2)]) dd152_129 rfl ?_
  refine zGo_s (pc' := 97) (st' := []) dd152_132 rfl ?_
  exact zGo_lv (lv := [(0, .ref 1007), (1, .int x1), (2, .int x2), (3, .int (x3 + (1 : Int32)))]) ⟨by simp, by simp, by simp⟩ (hr97 _ _ _ _ _ _ h)
def f152_97 (n : Nat) : Nat → Int32 → Int32 → Int32 → zσ → Option (Int32 × zσ)
  | 0, _, _, _, _ => none
  | j + 1, x1, x2, x3, s =>
    if x3 < (s.1 1007 12) then
    if zin? x3 8 = true then
    if (((s.1 1035 (nx x3)) >>> (x3 &&& 31)) &&& (1 : Int32)) = (1 : Int32) then
    if x2 = x1 then
    some (x3, s)
    else f152_129 n (f152_97 n j) x1 (x2 + (1 : Int32)) x3 s
    else f152_129 n (f152_97 n j) x1 x2 x3 s
    else none
    else some ((-1 : Int32), s)
set_option maxRecDepth 20000 in
theorem f152_97_ok {n d : Nat} (hd : 2 ≤ d) : ∀ (j : Nat) (x1 : Int32) (x2 : Int32) (x3 : Int32) (s : zσ) (v : Int32) (s2 : zσ), f152_97 n j x1 x2 x3 s = some (v, s2) → ∀ {w : zσ} {fz : Bool} {L : Nat} {xs : Nat → Int32}, zGo (zX fz L xs) d q_152 (97, [(0, .ref 1007), (1, .int x1), (2, .int x2), (3, .int x3)], [], zmk s w, 0, 0) (some (.int v), zmk s2 w, 0, 0) := by
  obtain ⟨d, rfl⟩ : ∃ d0, d = d0 + 1 := ⟨d - 1, by omega⟩
  intro j
  induction j with
  | zero => intro x1 x2 x3 s v s2 h; cases h
  | succ j ih =>
    intro x1 x2 x3 s v s2 h w fz L xs
    rw [f152_97] at h
    refine zGo_s (pc' := 98) (st' := [.int x3]) dd152_97 rfl ?_
    refine zGo_s (pc' := 99) (st' := [.ref 1007, .int x3]) dd152_98 rfl ?_
    refine cGI dd152_99 rfl rfl rfl rfl ?_
    rcases oite h with ⟨hc, h⟩ | ⟨hc, h⟩
    · refine zIF dd152_102 (kGeF hc) ?_
      refine zGo_s (pc' := 106) (st' := [.ref 1007]) dd152_105 rfl ?_
      refine cGF (e := 1035) dd152_106 rfl rfl rfl rfl rfl ?_
      refine zGo_s (pc' := 110) (st' := [.int x3, .ref 1035]) dd152_109 rfl ?_
      obtain ⟨hi, h⟩ := ochk h
      refine cIA dd152_110 rfl rfl hi ?_
      refine zGo_s (pc' := 112) (st' := [.int x3, .int (s.1 1035 (nx x3))]) dd152_111 rfl ?_
      refine zGo_s (pc' := 113) (st' := [.int ((s.1 1035 (nx x3)) >>> (x3 &&& 31))]) dd152_112 rfl ?_
      refine zGo_s (pc' := 114) (st' := [.int (1 : Int32), .int ((s.1 1035 (nx x3)) >>> (x3 &&& 31))]) dd152_113 rfl ?_
      refine zGo_s (pc' := 115) (st' := [.int (((s.1 1035 (nx x3)) >>> (x3 &&& 31)) &&& (1 : Int32))]) dd152_114 rfl ?_
      refine zGo_s (pc' := 116) (st' := [.int (1 : Int32), .int (((s.1 1035 (nx x3)) >>> (x3 &&& 31)) &&& (1 : Int32))]) dd152_115 rfl ?_
      rcases oite h with ⟨hc, h⟩ | ⟨hc, h⟩
      · refine zIF dd152_116 (kNeF hc) ?_
        refine zGo_s (pc' := 120) (st' := [.int x2]) dd152_119 rfl ?_
        refine zGo_s (pc' := 121) (st' := [.int x1, .int x2]) dd152_120 rfl ?_
        rcases oite h with ⟨hc, h⟩ | ⟨hc, h⟩
        · refine zIF dd152_121 (kNeF hc) ?_
          refine zGo_s (pc' := 125) (st' := [.int x3]) dd152_124 rfl ?_
          obtain ⟨rfl, rfl⟩ := oret h
          exact zGo_ret dd152_125 rfl rfl
        · refine zIT dd152_121 rfl (kNeT hc) ?_
          refine zGo_s (pc' := 129) (st' := []) (lv' := [(2, .int (x2 + (1 : Int32))), (0, .ref 1007), (1, .int x1), (3, .int x3)]) dd152_126 rfl ?_
          exact zGo_lv (lv := [(0, .ref 1007), (1, .int x1), (2, .int (x2 + (1 : Int32))), (3, .int x3)]) ⟨by simp, by simp, by simp⟩ (f152_129_ok hd ih h)
      · refine zIT dd152_116 rfl (kNeT hc) ?_
        exact f152_129_ok hd ih h
    · refine zIT dd152_102 rfl (kGeT hc) ?_
      refine zGo_s (pc' := 136) (st' := [.int (-1 : Int32)]) dd152_135 rfl ?_
      obtain ⟨rfl, rfl⟩ := oret h
      exact zGo_ret dd152_136 rfl rfl
def f152_81 (n : Nat) (r34 : Int32 → Int32 → zσ → Option (Int32 × zσ)) (r44 : Int32 → Int32 → Int32 → zσ → Option (Int32 × zσ)) (x1 : Int32) (x2 : Int32) (x3 : Int32) (s : zσ) : Option (Int32 × zσ) :=
    r44 x1 x2 (x3 + (1 : Int32)) s
set_option maxRecDepth 20000 in
theorem f152_81_ok {n d : Nat} {r34 : Int32 → Int32 → zσ → Option (Int32 × zσ)} {r44 : Int32 → Int32 → Int32 → zσ → Option (Int32 × zσ)} {x1 : Int32} {x2 : Int32} {x3 : Int32} {s : zσ} {v : Int32} {s2 : zσ} (hd : 2 ≤ d) (hr34 : ∀ (x1 : Int32) (x2 : Int32) (s : zσ) (v : Int32) (s2 : zσ), r34 x1 x2 s = some (v, s2) → ∀ {w : zσ} {fz : Bool} {L : Nat} {xs : Nat → Int32}, zGo (zX fz L xs) d q_152 (34, [(0, .ref 1007), (1, .int x1), (2, .int x2)], [], zmk s w, 0, 0) (some (.int v), zmk s2 w, 0, 0)) (hr44 : ∀ (x1 : Int32) (x2 : Int32) (x3 : Int32) (s : zσ) (v : Int32) (s2 : zσ), r44 x1 x2 x3 s = some (v, s2) → ∀ {w : zσ} {fz : Bool} {L : Nat} {xs : Nat → Int32}, zGo (zX fz L xs) d q_152 (44, [(0, .ref 1007), (1, .int x1), (2, .int x2), (3, .int x3)], [], zmk s w, 0, 0) (some (.int v), zmk s2 w, 0, 0)) (h : f152_81 n r34 r44 x1 x2 x3 s = some (v, s2)) {w : zσ} {fz : Bool} {L : Nat} {xs : Nat → Int32} : zGo (zX fz L xs) d q_152 (81, [(0, .ref 1007), (1, .int x1), (2, .int x2), (3, .int x3)], [], zmk s w, 0, 0) (some (.int v), zmk s2 w, 0, 0) := by
  obtain ⟨d, rfl⟩ : ∃ d0, d = d0 + 1 := ⟨d - 1, by omega⟩
  unfold f152_81 at h
  refine zGo_s (pc' := 84) (st' := []) (lv' := [(3, .int (x3 + (1 : Int32))), (0, .ref 1007), (1, .int x1), (2, .int x2)]) dd152_81 rfl ?_
  refine zGo_s (pc' := 44) (st' := []) dd152_84 rfl ?_
  exact zGo_lv (lv := [(0, .ref 1007), (1, .int x1), (2, .int x2), (3, .int (x3 + (1 : Int32)))]) ⟨by simp, by simp, by simp⟩ (hr44 _ _ _ _ _ _ h)
def f152_44 (n : Nat) (r34 : Int32 → Int32 → zσ → Option (Int32 × zσ)) : Nat → Int32 → Int32 → Int32 → zσ → Option (Int32 × zσ)
  | 0, _, _, _, _ => none
  | j + 1, x1, x2, x3, s =>
    if x3 < (s.1 1007 12) then
    if zin? x3 8 = true then
    if (((s.1 1035 (nx x3)) >>> (x2 &&& 31)) &&& (1 : Int32)) = (1 : Int32) then
    if zin? x3 8 = true then
    if zin? x2 8 = true then
    if zin? x3 8 = true then
    zlet (sI s 1035 (nx x3) ((s.1 1035 (nx x3)) ||| (s.1 1035 (nx x2)))) fun u1 =>
    f152_81 n r34 (f152_44 n r34 j) x1 x2 x3 u1
    else none
    else none
    else none
    else f152_81 n r34 (f152_44 n r34 j) x1 x2 x3 s
    else none
    else r34 x1 (x2 + (1 : Int32)) s
set_option maxRecDepth 20000 in
theorem f152_44_ok {n d : Nat} {r34 : Int32 → Int32 → zσ → Option (Int32 × zσ)} (hd : 2 ≤ d) (hr34 : ∀ (x1 : Int32) (x2 : Int32) (s : zσ) (v : Int32) (s2 : zσ), r34 x1 x2 s = some (v, s2) → ∀ {w : zσ} {fz : Bool} {L : Nat} {xs : Nat → Int32}, zGo (zX fz L xs) d q_152 (34, [(0, .ref 1007), (1, .int x1), (2, .int x2)], [], zmk s w, 0, 0) (some (.int v), zmk s2 w, 0, 0)) : ∀ (j : Nat) (x1 : Int32) (x2 : Int32) (x3 : Int32) (s : zσ) (v : Int32) (s2 : zσ), f152_44 n r34 j x1 x2 x3 s = some (v, s2) → ∀ {w : zσ} {fz : Bool} {L : Nat} {xs : Nat → Int32}, zGo (zX fz L xs) d q_152 (44, [(0, .ref 1007), (1, .int x1), (2, .int x2), (3, .int x3)], [], zmk s w, 0, 0) (some (.int v), zmk s2 w, 0, 0) := by
  obtain ⟨d, rfl⟩ : ∃ d0, d = d0 + 1 := ⟨d - 1, by omega⟩
  intro j
  induction j with
  | zero => intro x1 x2 x3 s v s2 h; cases h
  | succ j ih =>
    intro x1 x2 x3 s v s2 h w fz L xs
    rw [f152_44] at h
    refine zGo_s (pc' := 45) (st' := [.int x3]) dd152_44 rfl ?_
    refine zGo_s (pc' := 46) (st' := [.ref 1007, .int x3]) dd152_45 rfl ?_
    refine cGI dd152_46 rfl rfl rfl rfl ?_
    rcases oite h with ⟨hc, h⟩ | ⟨hc, h⟩
    · refine zIF dd152_49 (kGeF hc) ?_
      refine zGo_s (pc' := 53) (st' := [.ref 1007]) dd152_52 rfl ?_
      refine cGF (e := 1035) dd152_53 rfl rfl rfl rfl rfl ?_
      refine zGo_s (pc' := 57) (st' := [.int x3, .ref 1035]) dd152_56 rfl ?_
      obtain ⟨hi, h⟩ := ochk h
      refine cIA dd152_57 rfl rfl hi ?_
      refine zGo_s (pc' := 59) (st' := [.int x2, .int (s.1 1035 (nx x3))]) dd152_58 rfl ?_
      refine zGo_s (pc' := 60) (st' := [.int ((s.1 1035 (nx x3)) >>> (x2 &&& 31))]) dd152_59 rfl ?_
      refine zGo_s (pc' := 61) (st' := [.int (1 : Int32), .int ((s.1 1035 (nx x3)) >>> (x2 &&& 31))]) dd152_60 rfl ?_
      refine zGo_s (pc' := 62) (st' := [.int (((s.1 1035 (nx x3)) >>> (x2 &&& 31)) &&& (1 : Int32))]) dd152_61 rfl ?_
      refine zGo_s (pc' := 63) (st' := [.int (1 : Int32), .int (((s.1 1035 (nx x3)) >>> (x2 &&& 31)) &&& (1 : Int32))]) dd152_62 rfl ?_
      rcases oite h with ⟨hc, h⟩ | ⟨hc, h⟩
      · refine zIF dd152_63 (kNeF hc) ?_
        refine zGo_s (pc' := 67) (st' := [.ref 1007]) dd152_66 rfl ?_
        refine cGF (e := 1035) dd152_67 rfl rfl rfl rfl rfl ?_
        refine zGo_s (pc' := 71) (st' := [.int x3, .ref 1035]) dd152_70 rfl ?_
        refine zGo_s (pc' := 72) (st' := [.int x3, .ref 1035, .int x3, .ref 1035]) dd152_71 rfl ?_
        obtain ⟨hi, h⟩ := ochk h
        refine cIA dd152_72 rfl rfl hi ?_
        refine zGo_s (pc' := 74) (st' := [.ref 1007, .int (s.1 1035 (nx x3)), .int x3, .ref 1035]) dd152_73 rfl ?_
        refine cGF (e := 1035) dd152_74 rfl rfl rfl rfl rfl ?_
        refine zGo_s (pc' := 78) (st' := [.int x2, .ref 1035, .int (s.1 1035 (nx x3)), .int x3, .ref 1035]) dd152_77 rfl ?_
        obtain ⟨hi, h⟩ := ochk h
        refine cIA dd152_78 rfl rfl hi ?_
        refine zGo_s (pc' := 80) (st' := [.int ((s.1 1035 (nx x3)) ||| (s.1 1035 (nx x2))), .int x3, .ref 1035]) dd152_79 rfl ?_
        obtain ⟨hi, h⟩ := ochk h
        obtain ⟨u1, e_u1, h⟩ := olet h
        refine cIS dd152_80 rfl rfl hi e_u1 ?_
        exact f152_81_ok hd hr34 ih h
      · refine zIT dd152_63 rfl (kNeT hc) ?_
        exact f152_81_ok hd hr34 ih h
    · refine zIT dd152_49 rfl (kGeT hc) ?_
      refine zGo_s (pc' := 90) (st' := []) (lv' := [(2, .int (x2 + (1 : Int32))), (0, .ref 1007), (1, .int x1), (3, .int x3)]) dd152_87 rfl ?_
      refine zGo_s (pc' := 34) (st' := []) dd152_90 rfl ?_
      exact zGo_lv (lv := [(0, .ref 1007), (1, .int x1), (2, .int (x2 + (1 : Int32)))]) ⟨by simp, by simp, by simp⟩ (hr34 _ _ _ _ _ h)
def f152_34 (n : Nat) : Nat → Int32 → Int32 → zσ → Option (Int32 × zσ)
  | 0, _, _, _ => none
  | j + 1, x1, x2, s =>
    if x2 < (s.1 1007 12) then
    f152_44 n (f152_34 n j) n x1 x2 (0 : Int32) s
    else f152_97 n n x1 (0 : Int32) (0 : Int32) s
set_option maxRecDepth 20000 in
theorem f152_34_ok {n d : Nat} (hd : 2 ≤ d) : ∀ (j : Nat) (x1 : Int32) (x2 : Int32) (s : zσ) (v : Int32) (s2 : zσ), f152_34 n j x1 x2 s = some (v, s2) → ∀ {w : zσ} {fz : Bool} {L : Nat} {xs : Nat → Int32}, zGo (zX fz L xs) d q_152 (34, [(0, .ref 1007), (1, .int x1), (2, .int x2)], [], zmk s w, 0, 0) (some (.int v), zmk s2 w, 0, 0) := by
  obtain ⟨d, rfl⟩ : ∃ d0, d = d0 + 1 := ⟨d - 1, by omega⟩
  intro j
  induction j with
  | zero => intro x1 x2 s v s2 h; cases h
  | succ j ih =>
    intro x1 x2 s v s2 h w fz L xs
    rw [f152_34] at h
    refine zGo_s (pc' := 35) (st' := [.int x2]) dd152_34 rfl ?_
    refine zGo_s (pc' := 36) (st' := [.ref 1007, .int x2]) dd152_35 rfl ?_
    refine cGI dd152_36 rfl rfl rfl rfl ?_
    rcases oite h with ⟨hc, h⟩ | ⟨hc, h⟩
    · refine zIF dd152_39 (kGeF hc) ?_
      refine zGo_s (pc' := 43) (st' := [.int (0 : Int32)]) dd152_42 rfl ?_
      refine zGo_s (pc' := 44) (st' := []) (lv' := [(3, .int (0 : Int32)), (0, .ref 1007), (1, .int x1), (2, .int x2)]) dd152_43 rfl ?_
      exact zGo_lv (lv := [(0, .ref 1007), (1, .int x1), (2, .int x2), (3, .int (0 : Int32))]) ⟨by simp, by simp, by simp⟩ (f152_44_ok hd ih _ _ _ _ _ _ _ h)
    · refine zIT dd152_39 rfl (kGeT hc) ?_
      refine zGo_s (pc' := 94) (st' := [.int (0 : Int32)]) dd152_93 rfl ?_
      refine zGo_s (pc' := 95) (st' := []) (lv' := [(2, .int (0 : Int32)), (0, .ref 1007), (1, .int x1)]) dd152_94 rfl ?_
      refine zGo_s (pc' := 96) (st' := [.int (0 : Int32)]) dd152_95 rfl ?_
      refine zGo_s (pc' := 97) (st' := []) (lv' := [(3, .int (0 : Int32)), (2, .int (0 : Int32)), (0, .ref 1007), (1, .int x1)]) dd152_96 rfl ?_
      exact zGo_lv (lv := [(0, .ref 1007), (1, .int x1), (2, .int (0 : Int32)), (3, .int (0 : Int32))]) ⟨by simp, by simp, by simp⟩ (f152_97_ok hd _ _ _ _ _ _ _ h)
def f152_2 (n : Nat) : Nat → Int32 → Int32 → zσ → Option (Int32 × zσ)
  | 0, _, _, _ => none
  | j + 1, x1, x2, s =>
    if x2 < (s.1 1007 12) then
    if zin? x2 8 = true then
    zrd 8 (s.2.2 1008 (nx x2)) fun a1 =>
    yb1 (f153 n a1 s) fun v3 u2 =>
    if zin? x2 8 = true then
    zlet (sI u2 1035 (nx x2) v3) fun u4 =>
    f152_2 n j x1 (x2 + (1 : Int32)) u4
    else none
    else none
    else f152_34 n n x1 (0 : Int32) s
set_option maxRecDepth 20000 in
theorem f152_2_ok {n d : Nat} (hd : 2 ≤ d) : ∀ (j : Nat) (x1 : Int32) (x2 : Int32) (s : zσ) (v : Int32) (s2 : zσ), f152_2 n j x1 x2 s = some (v, s2) → ∀ {w : zσ} {fz : Bool} {L : Nat} {xs : Nat → Int32}, zGo (zX fz L xs) d q_152 (2, [(0, .ref 1007), (1, .int x1), (2, .int x2)], [], zmk s w, 0, 0) (some (.int v), zmk s2 w, 0, 0) := by
  obtain ⟨d, rfl⟩ : ∃ d0, d = d0 + 1 := ⟨d - 1, by omega⟩
  intro j
  induction j with
  | zero => intro x1 x2 s v s2 h; cases h
  | succ j ih =>
    intro x1 x2 s v s2 h w fz L xs
    rw [f152_2] at h
    refine zGo_s (pc' := 3) (st' := [.int x2]) dd152_2 rfl ?_
    refine zGo_s (pc' := 4) (st' := [.ref 1007, .int x2]) dd152_3 rfl ?_
    refine cGI dd152_4 rfl rfl rfl rfl ?_
    rcases oite h with ⟨hc, h⟩ | ⟨hc, h⟩
    · refine zIF dd152_7 (kGeF hc) ?_
      refine zGo_s (pc' := 11) (st' := [.ref 1007]) dd152_10 rfl ?_
      refine cGF (e := 1035) dd152_11 rfl rfl rfl rfl rfl ?_
      refine zGo_s (pc' := 15) (st' := [.int x2, .ref 1035]) dd152_14 rfl ?_
      refine zGo_s (pc' := 16) (st' := [.ref 1007, .int x2, .ref 1035]) dd152_15 rfl ?_
      refine zGo_s (pc' := 17) (st' := [.ref 1007, .ref 1007, .int x2, .ref 1035]) dd152_16 rfl ?_
      refine cGF (e := 1008) dd152_17 rfl rfl rfl rfl rfl ?_
      refine zGo_s (pc' := 21) (st' := [.int x2, .ref 1008, .ref 1007, .int x2, .ref 1035]) dd152_20 rfl ?_
      obtain ⟨hi, h⟩ := ochk h
      obtain ⟨a1, e_a1, c_a1, h⟩ := ordd h
      refine cAA dd152_21 rfl rfl (Or.inl rfl) hi e_a1 ?_
      obtain ⟨v3, u2, hq, h⟩ := obnd h
      refine zCV1 (As := [.ref a1]) (rest := [.int x2, .ref 1035]) (b := 1007) (q' := q_153) dd152_22 rfl rfl (rcv_c rfl rfl (by decide)) rfl rfl rfl (f153_ok (d := d) (by omega) c_a1 hq) ?_
      obtain ⟨hi, h⟩ := ochk h
      obtain ⟨u4, e_u4, h⟩ := olet h
      refine cIS dd152_25 rfl rfl hi e_u4 ?_
      refine zGo_s (pc' := 29) (st' := []) (lv' := [(2, .int (x2 + (1 : Int32))), (0, .ref 1007), (1, .int x1)]) dd152_26 rfl ?_
      refine zGo_s (pc' := 2) (st' := []) dd152_29 rfl ?_
      exact zGo_lv (lv := [(0, .ref 1007), (1, .int x1), (2, .int (x2 + (1 : Int32)))]) ⟨by simp, by simp, by simp⟩ (ih _ _ _ _ _ h)
    · refine zIT dd152_7 rfl (kGeT hc) ?_
      refine zGo_s (pc' := 33) (st' := [.int (0 : Int32)]) dd152_32 rfl ?_
      refine zGo_s (pc' := 34) (st' := []) (lv' := [(2, .int (0 : Int32)), (0, .ref 1007), (1, .int x1)]) dd152_33 rfl ?_
      exact zGo_lv (lv := [(0, .ref 1007), (1, .int x1), (2, .int (0 : Int32))]) ⟨by simp, by simp, by simp⟩ (f152_34_ok hd _ _ _ _ _ _ h)
def f152 (n : Nat) (x1 : Int32) (s : zσ) : Option (Int32 × zσ) :=
    f152_2 n n x1 (0 : Int32) s
set_option maxRecDepth 20000 in
theorem f152_ok {n d : Nat} {x1 : Int32} {s : zσ} {v : Int32} {s2 : zσ} (hd : 2 ≤ d) (h : f152 n x1 s = some (v, s2)) {w : zσ} {fz : Bool} {L : Nat} {xs : Nat → Int32} : zGo (zX fz L xs) d q_152 (0, [(0, .ref 1007), (1, .int x1)], [], zmk s w, 0, 0) (some (.int v), zmk s2 w, 0, 0) := by
  obtain ⟨d, rfl⟩ : ∃ d0, d = d0 + 1 := ⟨d - 1, by omega⟩
  unfold f152 at h
  refine zGo_s (pc' := 1) (st' := [.int (0 : Int32)]) dd152_0 rfl ?_
  refine zGo_s (pc' := 2) (st' := []) (lv' := [(2, .int (0 : Int32)), (0, .ref 1007), (1, .int x1)]) dd152_1 rfl ?_
  exact zGo_lv (lv := [(0, .ref 1007), (1, .int x1), (2, .int (0 : Int32))]) ⟨by simp, by simp, by simp⟩ (f152_2_ok hd _ _ _ _ _ _ h)
/-! PH.ring(I)I -/
theorem dd151_0 : decode cX11_ring 0 = .ok (.aload_n 0, 1) := by decide +kernel
theorem dd151_1 : decode cX11_ring 1 = .ok (.getfield 28, 3) := by decide +kernel
theorem dd151_4 : decode cX11_ring 4 = .ok (.getfield 67, 3) := by decide +kernel
theorem dd151_7 : decode cX11_ring 7 = .ok (.ifCond .eq 14, 3) := by decide +kernel
theorem dd151_10 : decode cX11_ring 10 = .ok (.aload_n 0, 1) := by decide +kernel
theorem dd151_11 : decode cX11_ring 11 = .ok (.getfield 28, 3) := by decide +kernel
theorem dd151_14 : decode cX11_ring 14 = .ok (.iload_n 1, 1) := by decide +kernel
theorem dd151_15 : decode cX11_ring 15 = .ok (.invokevirtual 202, 3) := by decide +kernel
theorem dd151_18 : decode cX11_ring 18 = .ok (.goto 5, 3) := by decide +kernel
theorem dd151_21 : decode cX11_ring 21 = .ok (.bipush (-3), 2) := by decide +kernel
theorem dd151_23 : decode cX11_ring 23 = .ok (.ireturn, 1) := by decide +kernel
def f151 (n : Nat) (x1 : Int32) (s : zσ) : Option (Int32 × zσ) :=
    if (s.1 1007 11) = (0 : Int32) then
    some ((-3 : Int32), s)
    else yb1 (f152 n x1 s) fun v2 u1 =>
    some (v2, u1)
set_option maxRecDepth 20000 in
theorem f151_ok {n d : Nat} {x1 : Int32} {s : zσ} {v : Int32} {s2 : zσ} (hd : 3 ≤ d) (h : f151 n x1 s = some (v, s2)) {w : zσ} {fz : Bool} {L : Nat} {xs : Nat → Int32} : zGo (zX fz L xs) d q_151 (0, [(0, .ref 1000), (1, .int x1)], [], zmk s w, 0, 0) (some (.int v), zmk s2 w, 0, 0) := by
  obtain ⟨d, rfl⟩ : ∃ d0, d = d0 + 1 := ⟨d - 1, by omega⟩
  unfold f151 at h
  refine zGo_s (pc' := 1) (st' := [.ref 1000]) dd151_0 rfl ?_
  refine cGF (e := 1007) dd151_1 rfl rfl rfl rfl rfl ?_
  refine cGI dd151_4 rfl rfl rfl rfl ?_
  rcases oite h with ⟨hc, h⟩ | ⟨hc, h⟩
  · refine zUT dd151_7 rfl (kEqT hc) ?_
    refine zGo_s (pc' := 23) (st' := [.int (-3 : Int32)]) dd151_21 rfl ?_
    obtain ⟨rfl, rfl⟩ := oret h
    exact zGo_ret dd151_23 rfl rfl
  · refine zUF dd151_7 (kEqF hc) ?_
    refine zGo_s (pc' := 11) (st' := [.ref 1000]) dd151_10 rfl ?_
    refine cGF (e := 1007) dd151_11 rfl rfl rfl rfl rfl ?_
    refine zGo_s (pc' := 15) (st' := [.int x1, .ref 1007]) dd151_14 rfl ?_
    obtain ⟨v2, u1, hq, h⟩ := obnd h
    refine zCV1 (As := [.int x1]) (rest := []) (b := 1007) (q' := q_152) dd151_15 rfl rfl (rcv_c rfl rfl (by decide)) rfl rfl rfl (f152_ok (d := d) (by omega)  hq) ?_
    refine zGo_s (pc' := 23) (st' := [.int v2]) dd151_18 rfl ?_
    obtain ⟨rfl, rfl⟩ := oret h
    exact zGo_ret dd151_23 rfl rfl
/-! PH$Diary.noted(I)I -/
theorem dd155_0 : decode cX1_noted 0 = .ok (.iload_n 1, 1) := by decide +kernel
theorem dd155_1 : decode cX1_noted 1 = .ok (.ifCond .lt 27, 3) := by decide +kernel
theorem dd155_4 : decode cX1_noted 4 = .ok (.iload_n 1, 1) := by decide +kernel
theorem dd155_5 : decode cX1_noted 5 = .ok (.aload_n 0, 1) := by decide +kernel
theorem dd155_6 : decode cX1_noted 6 = .ok (.getfield 18, 3) := by decide +kernel
theorem dd155_9 : decode cX1_noted 9 = .ok (.if_icmp .ge 19, 3) := by decide +kernel
theorem dd155_12 : decode cX1_noted 12 = .ok (.iload_n 1, 1) := by decide +kernel
theorem dd155_13 : decode cX1_noted 13 = .ok (.sipush 200, 3) := by decide +kernel
theorem dd155_16 : decode cX1_noted 16 = .ok (.if_icmp .ge 12, 3) := by decide +kernel
theorem dd155_19 : decode cX1_noted 19 = .ok (.aload_n 0, 1) := by decide +kernel
theorem dd155_20 : decode cX1_noted 20 = .ok (.getfield 9, 3) := by decide +kernel
theorem dd155_23 : decode cX1_noted 23 = .ok (.iload_n 1, 1) := by decide +kernel
theorem dd155_24 : decode cX1_noted 24 = .ok (.iaload, 1) := by decide +kernel
theorem dd155_25 : decode cX1_noted 25 = .ok (.goto 4, 3) := by decide +kernel
theorem dd155_28 : decode cX1_noted 28 = .ok (.iconst 0, 1) := by decide +kernel
theorem dd155_29 : decode cX1_noted 29 = .ok (.ireturn, 1) := by decide +kernel
def f155 (n : Nat) (x1 : Int32) (s : zσ) : Option (Int32 × zσ) :=
    if x1 < (0 : Int32) then
    some ((0 : Int32), s)
    else if x1 < (s.1 1030 2) then
    if x1 < (200 : Int32) then
    if zin? x1 200 = true then
    some ((s.1 1031 (nx x1)), s)
    else none
    else some ((0 : Int32), s)
    else some ((0 : Int32), s)
set_option maxRecDepth 20000 in
theorem f155_ok {n d : Nat} {x1 : Int32} {s : zσ} {v : Int32} {s2 : zσ} (hd : 0 ≤ d) (h : f155 n x1 s = some (v, s2)) {w : zσ} {fz : Bool} {L : Nat} {xs : Nat → Int32} : zGo (zX fz L xs) d q_155 (0, [(0, .ref 1030), (1, .int x1)], [], zmk s w, 0, 0) (some (.int v), zmk s2 w, 0, 0) := by
  unfold f155 at h
  refine zGo_s (pc' := 1) (st' := [.int x1]) dd155_0 rfl ?_
  rcases oite h with ⟨hc, h⟩ | ⟨hc, h⟩
  · refine zUT dd155_1 rfl (kLtT hc) ?_
    refine zGo_s (pc' := 29) (st' := [.int (0 : Int32)]) dd155_28 rfl ?_
    obtain ⟨rfl, rfl⟩ := oret h
    exact zGo_ret dd155_29 rfl rfl
  · refine zUF dd155_1 (kLtF hc) ?_
    refine zGo_s (pc' := 5) (st' := [.int x1]) dd155_4 rfl ?_
    refine zGo_s (pc' := 6) (st' := [.ref 1030, .int x1]) dd155_5 rfl ?_
    refine cGI dd155_6 rfl rfl rfl rfl ?_
    rcases oite h with ⟨hc, h⟩ | ⟨hc, h⟩
    · refine zIF dd155_9 (kGeF hc) ?_
      refine zGo_s (pc' := 13) (st' := [.int x1]) dd155_12 rfl ?_
      refine zGo_s (pc' := 16) (st' := [.int (200 : Int32), .int x1]) dd155_13 rfl ?_
      rcases oite h with ⟨hc, h⟩ | ⟨hc, h⟩
      · refine zIF dd155_16 (kGeF hc) ?_
        refine zGo_s (pc' := 20) (st' := [.ref 1030]) dd155_19 rfl ?_
        refine cGF (e := 1031) dd155_20 rfl rfl rfl rfl rfl ?_
        refine zGo_s (pc' := 24) (st' := [.int x1, .ref 1031]) dd155_23 rfl ?_
        obtain ⟨hi, h⟩ := ochk h
        refine cIA dd155_24 rfl rfl hi ?_
        refine zGo_s (pc' := 29) (st' := [.int (s.1 1031 (nx x1))]) dd155_25 rfl ?_
        obtain ⟨rfl, rfl⟩ := oret h
        exact zGo_ret dd155_29 rfl rfl
      · refine zIT dd155_16 rfl (kGeT hc) ?_
        refine zGo_s (pc' := 29) (st' := [.int (0 : Int32)]) dd155_28 rfl ?_
        obtain ⟨rfl, rfl⟩ := oret h
        exact zGo_ret dd155_29 rfl rfl
    · refine zIT dd155_9 rfl (kGeT hc) ?_
      refine zGo_s (pc' := 29) (st' := [.int (0 : Int32)]) dd155_28 rfl ?_
      obtain ⟨rfl, rfl⟩ := oret h
      exact zGo_ret dd155_29 rfl rfl
/-! PH.logged(I)I -/
theorem dd154_0 : decode cX11_logged 0 = .ok (.aload_n 0, 1) := by decide +kernel
theorem dd154_1 : decode cX11_logged 1 = .ok (.getfield 28, 3) := by decide +kernel
theorem dd154_4 : decode cX11_logged 4 = .ok (.getfield 67, 3) := by decide +kernel
theorem dd154_7 : decode cX11_logged 7 = .ok (.ifCond .eq 17, 3) := by decide +kernel
theorem dd154_10 : decode cX11_logged 10 = .ok (.aload_n 0, 1) := by decide +kernel
theorem dd154_11 : decode cX11_logged 11 = .ok (.getfield 28, 3) := by decide +kernel
theorem dd154_14 : decode cX11_logged 14 = .ok (.getfield 98, 3) := by decide +kernel
theorem dd154_17 : decode cX11_logged 17 = .ok (.iload_n 1, 1) := by decide +kernel
theorem dd154_18 : decode cX11_logged 18 = .ok (.invokevirtual 205, 3) := by decide +kernel
theorem dd154_21 : decode cX11_logged 21 = .ok (.goto 4, 3) := by decide +kernel
theorem dd154_24 : decode cX11_logged 24 = .ok (.iconst 0, 1) := by decide +kernel
theorem dd154_25 : decode cX11_logged 25 = .ok (.ireturn, 1) := by decide +kernel
def f154 (n : Nat) (x1 : Int32) (s : zσ) : Option (Int32 × zσ) :=
    if (s.1 1007 11) = (0 : Int32) then
    some ((0 : Int32), s)
    else yb1 (f155 n x1 s) fun v2 u1 =>
    some (v2, u1)
set_option maxRecDepth 20000 in
theorem f154_ok {n d : Nat} {x1 : Int32} {s : zσ} {v : Int32} {s2 : zσ} (hd : 1 ≤ d) (h : f154 n x1 s = some (v, s2)) {w : zσ} {fz : Bool} {L : Nat} {xs : Nat → Int32} : zGo (zX fz L xs) d q_154 (0, [(0, .ref 1000), (1, .int x1)], [], zmk s w, 0, 0) (some (.int v), zmk s2 w, 0, 0) := by
  obtain ⟨d, rfl⟩ : ∃ d0, d = d0 + 1 := ⟨d - 1, by omega⟩
  unfold f154 at h
  refine zGo_s (pc' := 1) (st' := [.ref 1000]) dd154_0 rfl ?_
  refine cGF (e := 1007) dd154_1 rfl rfl rfl rfl rfl ?_
  refine cGI dd154_4 rfl rfl rfl rfl ?_
  rcases oite h with ⟨hc, h⟩ | ⟨hc, h⟩
  · refine zUT dd154_7 rfl (kEqT hc) ?_
    refine zGo_s (pc' := 25) (st' := [.int (0 : Int32)]) dd154_24 rfl ?_
    obtain ⟨rfl, rfl⟩ := oret h
    exact zGo_ret dd154_25 rfl rfl
  · refine zUF dd154_7 (kEqF hc) ?_
    refine zGo_s (pc' := 11) (st' := [.ref 1000]) dd154_10 rfl ?_
    refine cGF (e := 1007) dd154_11 rfl rfl rfl rfl rfl ?_
    refine cGF (e := 1030) dd154_14 rfl rfl rfl rfl rfl ?_
    refine zGo_s (pc' := 18) (st' := [.int x1, .ref 1030]) dd154_17 rfl ?_
    obtain ⟨v2, u1, hq, h⟩ := obnd h
    refine zCV1 (As := [.int x1]) (rest := []) (b := 1030) (q' := q_155) dd154_18 rfl rfl (rcv_c rfl rfl (by decide)) rfl rfl rfl (f155_ok (d := d) (by omega)  hq) ?_
    refine zGo_s (pc' := 25) (st' := [.int v2]) dd154_21 rfl ?_
    obtain ⟨rfl, rfl⟩ := oret h
    exact zGo_ret dd154_25 rfl rfl
/-! PH$Diary.told(II)I -/
theorem dd157_0 : decode cX1_told 0 = .ok (.iload_n 1, 1) := by decide +kernel
theorem dd157_1 : decode cX1_told 1 = .ok (.ifCond .lt 30, 3) := by decide +kernel
theorem dd157_4 : decode cX1_told 4 = .ok (.iload_n 1, 1) := by decide +kernel
theorem dd157_5 : decode cX1_told 5 = .ok (.aload_n 0, 1) := by decide +kernel
theorem dd157_6 : decode cX1_told 6 = .ok (.getfield 22, 3) := by decide +kernel
theorem dd157_9 : decode cX1_told 9 = .ok (.if_icmp .ge 22, 3) := by decide +kernel
theorem dd157_12 : decode cX1_told 12 = .ok (.iload_n 1, 1) := by decide +kernel
theorem dd157_13 : decode cX1_told 13 = .ok (.bipush 100, 2) := by decide +kernel
theorem dd157_15 : decode cX1_told 15 = .ok (.if_icmp .ge 16, 3) := by decide +kernel
theorem dd157_18 : decode cX1_told 18 = .ok (.iload_n 2, 1) := by decide +kernel
theorem dd157_19 : decode cX1_told 19 = .ok (.ifCond .lt 12, 3) := by decide +kernel
theorem dd157_22 : decode cX1_told 22 = .ok (.iload_n 2, 1) := by decide +kernel
theorem dd157_23 : decode cX1_told 23 = .ok (.iconst 2, 1) := by decide +kernel
theorem dd157_24 : decode cX1_told 24 = .ok (.if_icmp .gt 7, 3) := by decide +kernel
theorem dd157_27 : decode cX1_told 27 = .ok (.iconst 1, 1) := by decide +kernel
theorem dd157_28 : decode cX1_told 28 = .ok (.goto 4, 3) := by decide +kernel
theorem dd157_31 : decode cX1_told 31 = .ok (.iconst 0, 1) := by decide +kernel
theorem dd157_32 : decode cX1_told 32 = .ok (.istore_n 3, 1) := by decide +kernel
theorem dd157_33 : decode cX1_told 33 = .ok (.iload_n 3, 1) := by decide +kernel
theorem dd157_34 : decode cX1_told 34 = .ok (.ifCond .eq 16, 3) := by decide +kernel
theorem dd157_37 : decode cX1_told 37 = .ok (.aload_n 0, 1) := by decide +kernel
theorem dd157_38 : decode cX1_told 38 = .ok (.getfield 15, 3) := by decide +kernel
theorem dd157_41 : decode cX1_told 41 = .ok (.iconst 3, 1) := by decide +kernel
theorem dd157_42 : decode cX1_told 42 = .ok (.iload_n 1, 1) := by decide +kernel
theorem dd157_43 : decode cX1_told 43 = .ok (.imul, 1) := by decide +kernel
theorem dd157_44 : decode cX1_told 44 = .ok (.iload_n 2, 1) := by decide +kernel
theorem dd157_45 : decode cX1_told 45 = .ok (.iadd, 1) := by decide +kernel
theorem dd157_46 : decode cX1_told 46 = .ok (.iaload, 1) := by decide +kernel
theorem dd157_47 : decode cX1_told 47 = .ok (.goto 4, 3) := by decide +kernel
theorem dd157_50 : decode cX1_told 50 = .ok (.iconst (-1), 1) := by decide +kernel
theorem dd157_51 : decode cX1_told 51 = .ok (.ireturn, 1) := by decide +kernel
def f157_32 (n : Nat) (x1 : Int32) (x2 : Int32) (y0 : Int32) (s : zσ) : Option (Int32 × zσ) :=
    if y0 = (0 : Int32) then
    some ((-1 : Int32), s)
    else if zin? (((3 : Int32) * x1) + x2) 300 = true then
    some ((s.1 1032 (nx (((3 : Int32) * x1) + x2))), s)
    else none
set_option maxRecDepth 20000 in
theorem f157_32_ok {n d : Nat} {x1 : Int32} {x2 : Int32} {y0 : Int32} {s : zσ} {v : Int32} {s2 : zσ} (hd : 0 ≤ d) (h : f157_32 n x1 x2 y0 s = some (v, s2)) {w : zσ} {fz : Bool} {L : Nat} {xs : Nat → Int32} : zGo (zX fz L xs) d q_157 (32, [(0, .ref 1030), (1, .int x1), (2, .int x2)], [.int y0], zmk s w, 0, 0) (some (.int v), zmk s2 w, 0, 0) := by
  unfold f157_32 at h
  refine zGo_s (pc' := 33) (st' := []) (lv' := [(3, .int y0), (0, .ref 1030), (1, .int x1), (2, .int x2)]) dd157_32 rfl ?_
  refine zGo_s (pc' := 34) (st' := [.int y0]) dd157_33 rfl ?_
  rcases oite h with ⟨hc, h⟩ | ⟨hc, h⟩
  · refine zUT dd157_34 rfl (kEqT hc) ?_
    refine zGo_s (pc' := 51) (st' := [.int (-1 : Int32)]) dd157_50 rfl ?_
    obtain ⟨rfl, rfl⟩ := oret h
    exact zGo_ret dd157_51 rfl rfl
  · refine zUF dd157_34 (kEqF hc) ?_
    refine zGo_s (pc' := 38) (st' := [.ref 1030]) dd157_37 rfl ?_
    refine cGF (e := 1032) dd157_38 rfl rfl rfl rfl rfl ?_
    refine zGo_s (pc' := 42) (st' := [.int (3 : Int32), .ref 1032]) dd157_41 rfl ?_
    refine zGo_s (pc' := 43) (st' := [.int x1, .int (3 : Int32), .ref 1032]) dd157_42 rfl ?_
    refine zGo_s (pc' := 44) (st' := [.int ((3 : Int32) * x1), .ref 1032]) dd157_43 rfl ?_
    refine zGo_s (pc' := 45) (st' := [.int x2, .int ((3 : Int32) * x1), .ref 1032]) dd157_44 rfl ?_
    refine zGo_s (pc' := 46) (st' := [.int (((3 : Int32) * x1) + x2), .ref 1032]) dd157_45 rfl ?_
    obtain ⟨hi, h⟩ := ochk h
    refine cIA dd157_46 rfl rfl hi ?_
    refine zGo_s (pc' := 51) (st' := [.int (s.1 1032 (nx (((3 : Int32) * x1) + x2)))]) dd157_47 rfl ?_
    obtain ⟨rfl, rfl⟩ := oret h
    exact zGo_ret dd157_51 rfl rfl
def f157_31 (n : Nat) (x1 : Int32) (x2 : Int32) (s : zσ) : Option (Int32 × zσ) :=
    f157_32 n x1 x2 (0 : Int32) s
set_option maxRecDepth 20000 in
theorem f157_31_ok {n d : Nat} {x1 : Int32} {x2 : Int32} {s : zσ} {v : Int32} {s2 : zσ} (hd : 0 ≤ d) (h : f157_31 n x1 x2 s = some (v, s2)) {w : zσ} {fz : Bool} {L : Nat} {xs : Nat → Int32} : zGo (zX fz L xs) d q_157 (31, [(0, .ref 1030), (1, .int x1), (2, .int x2)], [], zmk s w, 0, 0) (some (.int v), zmk s2 w, 0, 0) := by
  unfold f157_31 at h
  refine zGo_s (pc' := 32) (st' := [.int (0 : Int32)]) dd157_31 rfl ?_
  exact f157_32_ok hd h
def f157 (n : Nat) (x1 : Int32) (x2 : Int32) (s : zσ) : Option (Int32 × zσ) :=
    if x1 < (0 : Int32) then
    f157_31 n x1 x2 s
    else if x1 < (s.1 1030 3) then
    if x1 < (100 : Int32) then
    if x2 < (0 : Int32) then
    f157_31 n x1 x2 s
    else if (2 : Int32) < x2 then
    f157_31 n x1 x2 s
    else f157_32 n x1 x2 (1 : Int32) s
    else f157_31 n x1 x2 s
    else f157_31 n x1 x2 s
set_option maxRecDepth 20000 in
theorem f157_ok {n d : Nat} {x1 : Int32} {x2 : Int32} {s : zσ} {v : Int32} {s2 : zσ} (hd : 0 ≤ d) (h : f157 n x1 x2 s = some (v, s2)) {w : zσ} {fz : Bool} {L : Nat} {xs : Nat → Int32} : zGo (zX fz L xs) d q_157 (0, [(0, .ref 1030), (1, .int x1), (2, .int x2)], [], zmk s w, 0, 0) (some (.int v), zmk s2 w, 0, 0) := by
  unfold f157 at h
  refine zGo_s (pc' := 1) (st' := [.int x1]) dd157_0 rfl ?_
  rcases oite h with ⟨hc, h⟩ | ⟨hc, h⟩
  · refine zUT dd157_1 rfl (kLtT hc) ?_
    exact f157_31_ok hd h
  · refine zUF dd157_1 (kLtF hc) ?_
    refine zGo_s (pc' := 5) (st' := [.int x1]) dd157_4 rfl ?_
    refine zGo_s (pc' := 6) (st' := [.ref 1030, .int x1]) dd157_5 rfl ?_
    refine cGI dd157_6 rfl rfl rfl rfl ?_
    rcases oite h with ⟨hc, h⟩ | ⟨hc, h⟩
    · refine zIF dd157_9 (kGeF hc) ?_
      refine zGo_s (pc' := 13) (st' := [.int x1]) dd157_12 rfl ?_
      refine zGo_s (pc' := 15) (st' := [.int (100 : Int32), .int x1]) dd157_13 rfl ?_
      rcases oite h with ⟨hc, h⟩ | ⟨hc, h⟩
      · refine zIF dd157_15 (kGeF hc) ?_
        refine zGo_s (pc' := 19) (st' := [.int x2]) dd157_18 rfl ?_
        rcases oite h with ⟨hc, h⟩ | ⟨hc, h⟩
        · refine zUT dd157_19 rfl (kLtT hc) ?_
          exact f157_31_ok hd h
        · refine zUF dd157_19 (kLtF hc) ?_
          refine zGo_s (pc' := 23) (st' := [.int x2]) dd157_22 rfl ?_
          refine zGo_s (pc' := 24) (st' := [.int (2 : Int32), .int x2]) dd157_23 rfl ?_
          rcases oite h with ⟨hc, h⟩ | ⟨hc, h⟩
          · refine zIT dd157_24 rfl (kGtT hc) ?_
            exact f157_31_ok hd h
          · refine zIF dd157_24 (kGtF hc) ?_
            refine zGo_s (pc' := 28) (st' := [.int (1 : Int32)]) dd157_27 rfl ?_
            refine zGo_s (pc' := 32) (st' := [.int (1 : Int32)]) dd157_28 rfl ?_
            exact f157_32_ok hd h
      · refine zIT dd157_15 rfl (kGeT hc) ?_
        exact f157_31_ok hd h
    · refine zIT dd157_9 rfl (kGeT hc) ?_
      exact f157_31_ok hd h
/-! PH.induced(II)I -/
theorem dd156_0 : decode cX11_induced 0 = .ok (.aload_n 0, 1) := by decide +kernel
theorem dd156_1 : decode cX11_induced 1 = .ok (.getfield 28, 3) := by decide +kernel
theorem dd156_4 : decode cX11_induced 4 = .ok (.getfield 67, 3) := by decide +kernel
theorem dd156_7 : decode cX11_induced 7 = .ok (.ifCond .eq 18, 3) := by decide +kernel
theorem dd156_10 : decode cX11_induced 10 = .ok (.aload_n 0, 1) := by decide +kernel
theorem dd156_11 : decode cX11_induced 11 = .ok (.getfield 28, 3) := by decide +kernel
theorem dd156_14 : decode cX11_induced 14 = .ok (.getfield 98, 3) := by decide +kernel
theorem dd156_17 : decode cX11_induced 17 = .ok (.iload_n 1, 1) := by decide +kernel
theorem dd156_18 : decode cX11_induced 18 = .ok (.iload_n 2, 1) := by decide +kernel
theorem dd156_19 : decode cX11_induced 19 = .ok (.invokevirtual 208, 3) := by decide +kernel
theorem dd156_22 : decode cX11_induced 22 = .ok (.goto 4, 3) := by decide +kernel
theorem dd156_25 : decode cX11_induced 25 = .ok (.iconst (-1), 1) := by decide +kernel
theorem dd156_26 : decode cX11_induced 26 = .ok (.ireturn, 1) := by decide +kernel
def f156 (n : Nat) (x1 : Int32) (x2 : Int32) (s : zσ) : Option (Int32 × zσ) :=
    if (s.1 1007 11) = (0 : Int32) then
    some ((-1 : Int32), s)
    else yb1 (f157 n x1 x2 s) fun v2 u1 =>
    some (v2, u1)
set_option maxRecDepth 20000 in
theorem f156_ok {n d : Nat} {x1 : Int32} {x2 : Int32} {s : zσ} {v : Int32} {s2 : zσ} (hd : 1 ≤ d) (h : f156 n x1 x2 s = some (v, s2)) {w : zσ} {fz : Bool} {L : Nat} {xs : Nat → Int32} : zGo (zX fz L xs) d q_156 (0, [(0, .ref 1000), (1, .int x1), (2, .int x2)], [], zmk s w, 0, 0) (some (.int v), zmk s2 w, 0, 0) := by
  obtain ⟨d, rfl⟩ : ∃ d0, d = d0 + 1 := ⟨d - 1, by omega⟩
  unfold f156 at h
  refine zGo_s (pc' := 1) (st' := [.ref 1000]) dd156_0 rfl ?_
  refine cGF (e := 1007) dd156_1 rfl rfl rfl rfl rfl ?_
  refine cGI dd156_4 rfl rfl rfl rfl ?_
  rcases oite h with ⟨hc, h⟩ | ⟨hc, h⟩
  · refine zUT dd156_7 rfl (kEqT hc) ?_
    refine zGo_s (pc' := 26) (st' := [.int (-1 : Int32)]) dd156_25 rfl ?_
    obtain ⟨rfl, rfl⟩ := oret h
    exact zGo_ret dd156_26 rfl rfl
  · refine zUF dd156_7 (kEqF hc) ?_
    refine zGo_s (pc' := 11) (st' := [.ref 1000]) dd156_10 rfl ?_
    refine cGF (e := 1007) dd156_11 rfl rfl rfl rfl rfl ?_
    refine cGF (e := 1030) dd156_14 rfl rfl rfl rfl rfl ?_
    refine zGo_s (pc' := 18) (st' := [.int x1, .ref 1030]) dd156_17 rfl ?_
    refine zGo_s (pc' := 19) (st' := [.int x2, .int x1, .ref 1030]) dd156_18 rfl ?_
    obtain ⟨v2, u1, hq, h⟩ := obnd h
    refine zCV1 (As := [.int x1, .int x2]) (rest := []) (b := 1030) (q' := q_157) dd156_19 rfl rfl (rcv_c rfl rfl (by decide)) rfl rfl rfl (f157_ok (d := d) (by omega)  hq) ?_
    refine zGo_s (pc' := 26) (st' := [.int v2]) dd156_22 rfl ?_
    obtain ⟨rfl, rfl⟩ := oret h
    exact zGo_ret dd156_26 rfl rfl
/-! PH$Machine.tally(I)I -/
theorem dd159_0 : decode cX3_tally 0 = .ok (.iload_n 1, 1) := by decide +kernel
theorem dd159_1 : decode cX3_tally 1 = .ok (.tableswitch 130 0 9 #[55, 60, 68, 76, 84, 92, 100, 108, 114, 122], 55) := by decide +kernel
theorem dd159_56 : decode cX3_tally 56 = .ok (.aload_n 0, 1) := by decide +kernel
theorem dd159_57 : decode cX3_tally 57 = .ok (.getfield 78, 3) := by decide +kernel
theorem dd159_60 : decode cX3_tally 60 = .ok (.ireturn, 1) := by decide +kernel
theorem dd159_61 : decode cX3_tally 61 = .ok (.aload_n 0, 1) := by decide +kernel
theorem dd159_62 : decode cX3_tally 62 = .ok (.getfield 41, 3) := by decide +kernel
theorem dd159_65 : decode cX3_tally 65 = .ok (.getfield 126, 3) := by decide +kernel
theorem dd159_68 : decode cX3_tally 68 = .ok (.ireturn, 1) := by decide +kernel
theorem dd159_69 : decode cX3_tally 69 = .ok (.aload_n 0, 1) := by decide +kernel
theorem dd159_70 : decode cX3_tally 70 = .ok (.getfield 41, 3) := by decide +kernel
theorem dd159_73 : decode cX3_tally 73 = .ok (.getfield 129, 3) := by decide +kernel
theorem dd159_76 : decode cX3_tally 76 = .ok (.ireturn, 1) := by decide +kernel
theorem dd159_77 : decode cX3_tally 77 = .ok (.aload_n 0, 1) := by decide +kernel
theorem dd159_78 : decode cX3_tally 78 = .ok (.getfield 41, 3) := by decide +kernel
theorem dd159_81 : decode cX3_tally 81 = .ok (.getfield 131, 3) := by decide +kernel
theorem dd159_84 : decode cX3_tally 84 = .ok (.ireturn, 1) := by decide +kernel
theorem dd159_85 : decode cX3_tally 85 = .ok (.aload_n 0, 1) := by decide +kernel
theorem dd159_86 : decode cX3_tally 86 = .ok (.getfield 41, 3) := by decide +kernel
theorem dd159_89 : decode cX3_tally 89 = .ok (.getfield 134, 3) := by decide +kernel
theorem dd159_92 : decode cX3_tally 92 = .ok (.ireturn, 1) := by decide +kernel
theorem dd159_93 : decode cX3_tally 93 = .ok (.aload_n 0, 1) := by decide +kernel
theorem dd159_94 : decode cX3_tally 94 = .ok (.getfield 41, 3) := by decide +kernel
theorem dd159_97 : decode cX3_tally 97 = .ok (.getfield 137, 3) := by decide +kernel
theorem dd159_100 : decode cX3_tally 100 = .ok (.ireturn, 1) := by decide +kernel
theorem dd159_101 : decode cX3_tally 101 = .ok (.aload_n 0, 1) := by decide +kernel
theorem dd159_102 : decode cX3_tally 102 = .ok (.getfield 34, 3) := by decide +kernel
theorem dd159_105 : decode cX3_tally 105 = .ok (.invokevirtual 140, 3) := by decide +kernel
theorem dd159_108 : decode cX3_tally 108 = .ok (.ireturn, 1) := by decide +kernel
theorem dd159_109 : decode cX3_tally 109 = .ok (.aload_n 0, 1) := by decide +kernel
theorem dd159_110 : decode cX3_tally 110 = .ok (.iconst 1, 1) := by decide +kernel
theorem dd159_111 : decode cX3_tally 111 = .ok (.invokevirtual 144, 3) := by decide +kernel
theorem dd159_114 : decode cX3_tally 114 = .ok (.ireturn, 1) := by decide +kernel
theorem dd159_115 : decode cX3_tally 115 = .ok (.aload_n 0, 1) := by decide +kernel
theorem dd159_116 : decode cX3_tally 116 = .ok (.getfield 41, 3) := by decide +kernel
theorem dd159_119 : decode cX3_tally 119 = .ok (.getfield 148, 3) := by decide +kernel
theorem dd159_122 : decode cX3_tally 122 = .ok (.ireturn, 1) := by decide +kernel
theorem dd159_123 : decode cX3_tally 123 = .ok (.aload_n 0, 1) := by decide +kernel
theorem dd159_124 : decode cX3_tally 124 = .ok (.getfield 41, 3) := by decide +kernel
theorem dd159_127 : decode cX3_tally 127 = .ok (.getfield 151, 3) := by decide +kernel
theorem dd159_130 : decode cX3_tally 130 = .ok (.ireturn, 1) := by decide +kernel
theorem dd159_131 : decode cX3_tally 131 = .ok (.bipush (-2), 2) := by decide +kernel
theorem dd159_133 : decode cX3_tally 133 = .ok (.ireturn, 1) := by decide +kernel
def f159 (n : Nat) (x1 : Int32) (s : zσ) : Option (Int32 × zσ) :=
    if x1 = (0 : Int32) then
    some ((s.1 1007 14), s)
    else if x1 = (1 : Int32) then
    some ((s.1 1030 6), s)
    else if x1 = (2 : Int32) then
    some ((s.1 1030 7), s)
    else if x1 = (3 : Int32) then
    some ((s.1 1030 2), s)
    else if x1 = (4 : Int32) then
    some ((s.1 1030 3), s)
    else if x1 = (5 : Int32) then
    some ((s.1 1030 5), s)
    else if x1 = (6 : Int32) then
    yb1 (f125 n s) fun v2 u1 =>
    some (v2, u1)
    else if x1 = (7 : Int32) then
    yb1 (f81 n (1 : Int32) s) fun v4 u3 =>
    some (v4, u3)
    else if x1 = (8 : Int32) then
    some ((s.1 1030 8), s)
    else if x1 = (9 : Int32) then
    some ((s.1 1030 9), s)
    else some ((-2 : Int32), s)
set_option maxRecDepth 20000 in
theorem f159_ok {n d : Nat} {x1 : Int32} {s : zσ} {v : Int32} {s2 : zσ} (hd : 1 ≤ d) (h : f159 n x1 s = some (v, s2)) {w : zσ} {fz : Bool} {L : Nat} {xs : Nat → Int32} : zGo (zX fz L xs) d q_159 (0, [(0, .ref 1007), (1, .int x1)], [], zmk s w, 0, 0) (some (.int v), zmk s2 w, 0, 0) := by
  obtain ⟨d, rfl⟩ : ∃ d0, d = d0 + 1 := ⟨d - 1, by omega⟩
  unfold f159 at h
  refine zGo_s (pc' := 1) (st' := [.int x1]) dd159_0 rfl ?_
  rcases oite h with ⟨hc, h⟩ | ⟨hn0, h⟩
  · refine zGo_sw dd159_1 (o := 55) (by rw [hc]; decide +kernel) rfl ?_
    refine zGo_s (pc' := 57) (st' := [.ref 1007]) dd159_56 rfl ?_
    refine cGI dd159_57 rfl rfl rfl rfl ?_
    obtain ⟨rfl, rfl⟩ := oret h
    exact zGo_ret dd159_60 rfl rfl
  rcases oite h with ⟨hc, h⟩ | ⟨hn1, h⟩
  · refine zGo_sw dd159_1 (o := 60) (by rw [hc]; decide +kernel) rfl ?_
    refine zGo_s (pc' := 62) (st' := [.ref 1007]) dd159_61 rfl ?_
    refine cGF (e := 1030) dd159_62 rfl rfl rfl rfl rfl ?_
    refine cGI dd159_65 rfl rfl rfl rfl ?_
    obtain ⟨rfl, rfl⟩ := oret h
    exact zGo_ret dd159_68 rfl rfl
  rcases oite h with ⟨hc, h⟩ | ⟨hn2, h⟩
  · refine zGo_sw dd159_1 (o := 68) (by rw [hc]; decide +kernel) rfl ?_
    refine zGo_s (pc' := 70) (st' := [.ref 1007]) dd159_69 rfl ?_
    refine cGF (e := 1030) dd159_70 rfl rfl rfl rfl rfl ?_
    refine cGI dd159_73 rfl rfl rfl rfl ?_
    obtain ⟨rfl, rfl⟩ := oret h
    exact zGo_ret dd159_76 rfl rfl
  rcases oite h with ⟨hc, h⟩ | ⟨hn3, h⟩
  · refine zGo_sw dd159_1 (o := 76) (by rw [hc]; decide +kernel) rfl ?_
    refine zGo_s (pc' := 78) (st' := [.ref 1007]) dd159_77 rfl ?_
    refine cGF (e := 1030) dd159_78 rfl rfl rfl rfl rfl ?_
    refine cGI dd159_81 rfl rfl rfl rfl ?_
    obtain ⟨rfl, rfl⟩ := oret h
    exact zGo_ret dd159_84 rfl rfl
  rcases oite h with ⟨hc, h⟩ | ⟨hn4, h⟩
  · refine zGo_sw dd159_1 (o := 84) (by rw [hc]; decide +kernel) rfl ?_
    refine zGo_s (pc' := 86) (st' := [.ref 1007]) dd159_85 rfl ?_
    refine cGF (e := 1030) dd159_86 rfl rfl rfl rfl rfl ?_
    refine cGI dd159_89 rfl rfl rfl rfl ?_
    obtain ⟨rfl, rfl⟩ := oret h
    exact zGo_ret dd159_92 rfl rfl
  rcases oite h with ⟨hc, h⟩ | ⟨hn5, h⟩
  · refine zGo_sw dd159_1 (o := 92) (by rw [hc]; decide +kernel) rfl ?_
    refine zGo_s (pc' := 94) (st' := [.ref 1007]) dd159_93 rfl ?_
    refine cGF (e := 1030) dd159_94 rfl rfl rfl rfl rfl ?_
    refine cGI dd159_97 rfl rfl rfl rfl ?_
    obtain ⟨rfl, rfl⟩ := oret h
    exact zGo_ret dd159_100 rfl rfl
  rcases oite h with ⟨hc, h⟩ | ⟨hn6, h⟩
  · refine zGo_sw dd159_1 (o := 100) (by rw [hc]; decide +kernel) rfl ?_
    refine zGo_s (pc' := 102) (st' := [.ref 1007]) dd159_101 rfl ?_
    refine cGF (e := 1022) dd159_102 rfl rfl rfl rfl rfl ?_
    obtain ⟨v2, u1, hq, h⟩ := obnd h
    refine zCV1 (As := []) (rest := []) (b := 1022) (q' := q_125) dd159_105 rfl rfl (rcv_c rfl rfl (by decide)) rfl rfl rfl (f125_ok (d := d) (by omega)  hq) ?_
    obtain ⟨rfl, rfl⟩ := oret h
    exact zGo_ret dd159_108 rfl rfl
  rcases oite h with ⟨hc, h⟩ | ⟨hn7, h⟩
  · refine zGo_sw dd159_1 (o := 108) (by rw [hc]; decide +kernel) rfl ?_
    refine zGo_s (pc' := 110) (st' := [.ref 1007]) dd159_109 rfl ?_
    refine zGo_s (pc' := 111) (st' := [.int (1 : Int32), .ref 1007]) dd159_110 rfl ?_
    obtain ⟨v4, u3, hq, h⟩ := obnd h
    refine zCV1 (As := [.int (1 : Int32)]) (rest := []) (b := 1007) (q' := q_81) dd159_111 rfl rfl (rcv_c rfl rfl (by decide)) rfl rfl rfl (f81_ok (d := d) (by omega)  hq) ?_
    obtain ⟨rfl, rfl⟩ := oret h
    exact zGo_ret dd159_114 rfl rfl
  rcases oite h with ⟨hc, h⟩ | ⟨hn8, h⟩
  · refine zGo_sw dd159_1 (o := 114) (by rw [hc]; decide +kernel) rfl ?_
    refine zGo_s (pc' := 116) (st' := [.ref 1007]) dd159_115 rfl ?_
    refine cGF (e := 1030) dd159_116 rfl rfl rfl rfl rfl ?_
    refine cGI dd159_119 rfl rfl rfl rfl ?_
    obtain ⟨rfl, rfl⟩ := oret h
    exact zGo_ret dd159_122 rfl rfl
  rcases oite h with ⟨hc, h⟩ | ⟨hn9, h⟩
  · refine zGo_sw dd159_1 (o := 122) (by rw [hc]; decide +kernel) rfl ?_
    refine zGo_s (pc' := 124) (st' := [.ref 1007]) dd159_123 rfl ?_
    refine cGF (e := 1030) dd159_124 rfl rfl rfl rfl rfl ?_
    refine cGI dd159_127 rfl rfl rfl rfl ?_
    obtain ⟨rfl, rfl⟩ := oret h
    exact zGo_ret dd159_130 rfl rfl
  refine zGo_sw dd159_1 (o := 130) (zto_d (by decide) (by decide) fun k hk => ?_) rfl ?_
  · have hk2 : k = 0 ∨ k = 1 ∨ k = 2 ∨ k = 3 ∨ k = 4 ∨ k = 5 ∨ k = 6 ∨ k = 7 ∨ k = 8 ∨ k = 9 := by omega
    rcases hk2 with rfl | rfl | rfl | rfl | rfl | rfl | rfl | rfl | rfl | rfl
    · exact Or.inr hn0
    · exact Or.inr hn1
    · exact Or.inr hn2
    · exact Or.inr hn3
    · exact Or.inr hn4
    · exact Or.inr hn5
    · exact Or.inr hn6
    · exact Or.inr hn7
    · exact Or.inr hn8
    · exact Or.inr hn9
  refine zGo_s (pc' := 133) (st' := [.int (-2 : Int32)]) dd159_131 rfl ?_
  obtain ⟨rfl, rfl⟩ := oret h
  exact zGo_ret dd159_133 rfl rfl
/-! PH.count(I)I -/
theorem dd158_0 : decode cX11_count 0 = .ok (.aload_n 0, 1) := by decide +kernel
theorem dd158_1 : decode cX11_count 1 = .ok (.getfield 28, 3) := by decide +kernel
theorem dd158_4 : decode cX11_count 4 = .ok (.getfield 67, 3) := by decide +kernel
theorem dd158_7 : decode cX11_count 7 = .ok (.ifCond .eq 14, 3) := by decide +kernel
theorem dd158_10 : decode cX11_count 10 = .ok (.aload_n 0, 1) := by decide +kernel
theorem dd158_11 : decode cX11_count 11 = .ok (.getfield 28, 3) := by decide +kernel
theorem dd158_14 : decode cX11_count 14 = .ok (.iload_n 1, 1) := by decide +kernel
theorem dd158_15 : decode cX11_count 15 = .ok (.invokevirtual 211, 3) := by decide +kernel
theorem dd158_18 : decode cX11_count 18 = .ok (.goto 5, 3) := by decide +kernel
theorem dd158_21 : decode cX11_count 21 = .ok (.bipush (-3), 2) := by decide +kernel
theorem dd158_23 : decode cX11_count 23 = .ok (.ireturn, 1) := by decide +kernel
def f158 (n : Nat) (x1 : Int32) (s : zσ) : Option (Int32 × zσ) :=
    if (s.1 1007 11) = (0 : Int32) then
    some ((-3 : Int32), s)
    else yb1 (f159 n x1 s) fun v2 u1 =>
    some (v2, u1)
set_option maxRecDepth 20000 in
theorem f158_ok {n d : Nat} {x1 : Int32} {s : zσ} {v : Int32} {s2 : zσ} (hd : 2 ≤ d) (h : f158 n x1 s = some (v, s2)) {w : zσ} {fz : Bool} {L : Nat} {xs : Nat → Int32} : zGo (zX fz L xs) d q_158 (0, [(0, .ref 1000), (1, .int x1)], [], zmk s w, 0, 0) (some (.int v), zmk s2 w, 0, 0) := by
  obtain ⟨d, rfl⟩ : ∃ d0, d = d0 + 1 := ⟨d - 1, by omega⟩
  unfold f158 at h
  refine zGo_s (pc' := 1) (st' := [.ref 1000]) dd158_0 rfl ?_
  refine cGF (e := 1007) dd158_1 rfl rfl rfl rfl rfl ?_
  refine cGI dd158_4 rfl rfl rfl rfl ?_
  rcases oite h with ⟨hc, h⟩ | ⟨hc, h⟩
  · refine zUT dd158_7 rfl (kEqT hc) ?_
    refine zGo_s (pc' := 23) (st' := [.int (-3 : Int32)]) dd158_21 rfl ?_
    obtain ⟨rfl, rfl⟩ := oret h
    exact zGo_ret dd158_23 rfl rfl
  · refine zUF dd158_7 (kEqF hc) ?_
    refine zGo_s (pc' := 11) (st' := [.ref 1000]) dd158_10 rfl ?_
    refine cGF (e := 1007) dd158_11 rfl rfl rfl rfl rfl ?_
    refine zGo_s (pc' := 15) (st' := [.int x1, .ref 1007]) dd158_14 rfl ?_
    obtain ⟨v2, u1, hq, h⟩ := obnd h
    refine zCV1 (As := [.int x1]) (rest := []) (b := 1007) (q' := q_159) dd158_15 rfl rfl (rcv_c rfl rfl (by decide)) rfl rfl rfl (f159_ok (d := d) (by omega)  hq) ?_
    refine zGo_s (pc' := 23) (st' := [.int v2]) dd158_18 rfl ?_
    obtain ⟨rfl, rfl⟩ := oret h
    exact zGo_ret dd158_23 rfl rfl
/-! PHModel.feed(JI)I -/
theorem dd162_0 : decode cX13_feed 0 = .ok (.iload_n 3, 1) := by decide +kernel
theorem dd162_1 : decode cX13_feed 1 = .ok (.ifCond .lt 9, 3) := by decide +kernel
theorem dd162_4 : decode cX13_feed 4 = .ok (.iload_n 3, 1) := by decide +kernel
theorem dd162_5 : decode cX13_feed 5 = .ok (.bipush 8, 2) := by decide +kernel
theorem dd162_7 : decode cX13_feed 7 = .ok (.if_icmp .le 6, 3) := by decide +kernel
theorem dd162_10 : decode cX13_feed 10 = .ok (.bipush (-2), 2) := by decide +kernel
theorem dd162_12 : decode cX13_feed 12 = .ok (.ireturn, 1) := by decide +kernel
theorem dd162_13 : decode cX13_feed 13 = .ok (.aload_n 0, 1) := by decide +kernel
theorem dd162_14 : decode cX13_feed 14 = .ok (.getfield 164, 3) := by decide +kernel
theorem dd162_17 : decode cX13_feed 17 = .ok (.iload_n 3, 1) := by decide +kernel
theorem dd162_18 : decode cX13_feed 18 = .ok (.iadd, 1) := by decide +kernel
theorem dd162_19 : decode cX13_feed 19 = .ok (.sipush 4000, 3) := by decide +kernel
theorem dd162_22 : decode cX13_feed 22 = .ok (.if_icmp .le 6, 3) := by decide +kernel
theorem dd162_25 : decode cX13_feed 25 = .ok (.bipush (-4), 2) := by decide +kernel
theorem dd162_27 : decode cX13_feed 27 = .ok (.ireturn, 1) := by decide +kernel
theorem dd162_28 : decode cX13_feed 28 = .ok (.iload_n 3, 1) := by decide +kernel
theorem dd162_29 : decode cX13_feed 29 = .ok (.iconst 1, 1) := by decide +kernel
theorem dd162_30 : decode cX13_feed 30 = .ok (.isub, 1) := by decide +kernel
theorem dd162_31 : decode cX13_feed 31 = .ok (.istore 4, 2) := by decide +kernel
theorem dd162_33 : decode cX13_feed 33 = .ok (.iload 4, 2) := by decide +kernel
theorem dd162_35 : decode cX13_feed 35 = .ok (.ifCond .lt 40, 3) := by decide +kernel
theorem dd162_38 : decode cX13_feed 38 = .ok (.aload_n 0, 1) := by decide +kernel
theorem dd162_39 : decode cX13_feed 39 = .ok (.getfield 7, 3) := by decide +kernel
theorem dd162_42 : decode cX13_feed 42 = .ok (.aload_n 0, 1) := by decide +kernel
theorem dd162_43 : decode cX13_feed 43 = .ok (.getfield 164, 3) := by decide +kernel
theorem dd162_46 : decode cX13_feed 46 = .ok (.lload_n 1, 1) := by decide +kernel
theorem dd162_47 : decode cX13_feed 47 = .ok (.bipush 8, 2) := by decide +kernel
theorem dd162_49 : decode cX13_feed 49 = .ok (.iload 4, 2) := by decide +kernel
theorem dd162_51 : decode cX13_feed 51 = .ok (.imul, 1) := by decide +kernel
theorem dd162_52 : decode cX13_feed 52 = .ok (.lushr, 1) := by decide +kernel
theorem dd162_53 : decode cX13_feed 53 = .ok (.l2i, 1) := by decide +kernel
theorem dd162_54 : decode cX13_feed 54 = .ok (.sipush 255, 3) := by decide +kernel
theorem dd162_57 : decode cX13_feed 57 = .ok (.iand, 1) := by decide +kernel
theorem dd162_58 : decode cX13_feed 58 = .ok (.iastore, 1) := by decide +kernel
theorem dd162_59 : decode cX13_feed 59 = .ok (.aload_n 0, 1) := by decide +kernel
theorem dd162_60 : decode cX13_feed 60 = .ok (.dup, 1) := by decide +kernel
theorem dd162_61 : decode cX13_feed 61 = .ok (.getfield 164, 3) := by decide +kernel
theorem dd162_64 : decode cX13_feed 64 = .ok (.iconst 1, 1) := by decide +kernel
theorem dd162_65 : decode cX13_feed 65 = .ok (.iadd, 1) := by decide +kernel
theorem dd162_66 : decode cX13_feed 66 = .ok (.putfield 164, 3) := by decide +kernel
theorem dd162_69 : decode cX13_feed 69 = .ok (.iinc 4 (-1), 3) := by decide +kernel
theorem dd162_72 : decode cX13_feed 72 = .ok (.goto (-39), 3) := by decide +kernel
theorem dd162_75 : decode cX13_feed 75 = .ok (.aload_n 0, 1) := by decide +kernel
theorem dd162_76 : decode cX13_feed 76 = .ok (.iload_n 3, 1) := by decide +kernel
theorem dd162_77 : decode cX13_feed 77 = .ok (.ifCond .ne 7, 3) := by decide +kernel
theorem dd162_80 : decode cX13_feed 80 = .ok (.iconst 0, 1) := by decide +kernel
theorem dd162_81 : decode cX13_feed 81 = .ok (.goto 7, 3) := by decide +kernel
theorem dd162_84 : decode cX13_feed 84 = .ok (.aload_n 0, 1) := by decide +kernel
theorem dd162_85 : decode cX13_feed 85 = .ok (.getfield 164, 3) := by decide +kernel
theorem dd162_88 : decode cX13_feed 88 = .ok (.putfield 164, 3) := by decide +kernel
theorem dd162_91 : decode cX13_feed 91 = .ok (.aload_n 0, 1) := by decide +kernel
theorem dd162_92 : decode cX13_feed 92 = .ok (.getfield 164, 3) := by decide +kernel
theorem dd162_95 : decode cX13_feed 95 = .ok (.ireturn, 1) := by decide +kernel
def f162_88 (n : Nat) (y0 : Int32) (s : zσ) : Option (Int32 × zσ) :=
    zlet (sI s 1132 1 y0) fun u1 =>
    some ((u1.1 1132 1), u1)
set_option maxRecDepth 20000 in
theorem f162_88_ok {n d : Nat} {y0 : Int32} {s : zσ} {v : Int32} {s2 : zσ} (hd : 0 ≤ d) (h : f162_88 n y0 s = some (v, s2)) {w : zσ} {fz : Bool} {L : Nat} {xs : Nat → Int32} : zGo (zX fz L xs) d q_162 (88, [(0, .ref 1132)], [.int y0, .ref 1132], zmk w s, 0, 0) (some (.int v), zmk w s2, 0, 0) := by
  unfold f162_88 at h
  obtain ⟨u1, e_u1, h⟩ := olet h
  refine mPI dd162_88 rfl rfl rfl rfl rfl rfl e_u1 ?_
  refine zGo_s (pc' := 92) (st' := [.ref 1132]) dd162_91 rfl ?_
  refine mGI dd162_92 rfl rfl rfl rfl ?_
  obtain ⟨rfl, rfl⟩ := oret h
  exact zGo_ret dd162_95 rfl rfl
def f162_33 (n : Nat) : Nat → Int64 → Int32 → Int32 → zσ → Option (Int32 × zσ)
  | 0, _, _, _, _ => none
  | j + 1, x1, x3, x4, s =>
    if x4 < (0 : Int32) then
    if x3 = (0 : Int32) then
    f162_88 n (0 : Int32) s
    else f162_88 n (s.1 1132 1) s
    else if zin? (s.1 1132 1) 4000 = true then
    zlet (sI s 1133 (nx (s.1 1132 1)) (((((x1).toUInt64 >>> (((8 : Int32) * x4).toInt64.toUInt64 &&& Int64.toUInt64 63)).toInt64).toInt32) &&& (255 : Int32))) fun u1 =>
    zlet (sI u1 1132 1 ((u1.1 1132 1) + (1 : Int32))) fun u2 =>
    f162_33 n j x1 x3 (x4 + (-1 : Int32)) u2
    else none
set_option maxRecDepth 20000 in
theorem f162_33_ok {n d : Nat} (hd : 0 ≤ d) : ∀ (j : Nat) (x1 : Int64) (x3 : Int32) (x4 : Int32) (s : zσ) (v : Int32) (s2 : zσ), f162_33 n j x1 x3 x4 s = some (v, s2) → ∀ {w : zσ} {fz : Bool} {L : Nat} {xs : Nat → Int32}, zGo (zX fz L xs) d q_162 (33, [(0, .ref 1132), (1, .long x1), (3, .int x3), (4, .int x4)], [], zmk w s, 0, 0) (some (.int v), zmk w s2, 0, 0) := by
  intro j
  induction j with
  | zero => intro x1 x3 x4 s v s2 h; cases h
  | succ j ih =>
    intro x1 x3 x4 s v s2 h w fz L xs
    rw [f162_33] at h
    refine zGo_s (pc' := 35) (st' := [.int x4]) dd162_33 rfl ?_
    rcases oite h with ⟨hc, h⟩ | ⟨hc, h⟩
    · refine zUT dd162_35 rfl (kLtT hc) ?_
      refine zGo_s (pc' := 76) (st' := [.ref 1132]) dd162_75 rfl ?_
      refine zGo_s (pc' := 77) (st' := [.int x3, .ref 1132]) dd162_76 rfl ?_
      rcases oite h with ⟨hc, h⟩ | ⟨hc, h⟩
      · refine zUF dd162_77 (kNeF hc) ?_
        refine zGo_s (pc' := 81) (st' := [.int (0 : Int32), .ref 1132]) dd162_80 rfl ?_
        refine zGo_s (pc' := 88) (st' := [.int (0 : Int32), .ref 1132]) dd162_81 rfl ?_
        exact zGo_lv (lv := [(0, .ref 1132)]) ⟨by simp, by simp, by simp⟩ (f162_88_ok hd h)
      · refine zUT dd162_77 rfl (kNeT hc) ?_
        refine zGo_s (pc' := 85) (st' := [.ref 1132, .ref 1132]) dd162_84 rfl ?_
        refine mGI dd162_85 rfl rfl rfl rfl ?_
        exact zGo_lv (lv := [(0, .ref 1132)]) ⟨by simp, by simp, by simp⟩ (f162_88_ok hd h)
    · refine zUF dd162_35 (kLtF hc) ?_
      refine zGo_s (pc' := 39) (st' := [.ref 1132]) dd162_38 rfl ?_
      refine mGF (e := 1133) dd162_39 rfl rfl rfl rfl rfl ?_
      refine zGo_s (pc' := 43) (st' := [.ref 1132, .ref 1133]) dd162_42 rfl ?_
      refine mGI dd162_43 rfl rfl rfl rfl ?_
      refine zGo_s (pc' := 47) (st' := [.long x1, .int (s.1 1132 1), .ref 1133]) dd162_46 rfl ?_
      refine zGo_s (pc' := 49) (st' := [.int (8 : Int32), .long x1, .int (s.1 1132 1), .ref 1133]) dd162_47 rfl ?_
      refine zGo_s (pc' := 51) (st' := [.int x4, .int (8 : Int32), .long x1, .int (s.1 1132 1), .ref 1133]) dd162_49 rfl ?_
      refine zGo_s (pc' := 52) (st' := [.int ((8 : Int32) * x4), .long x1, .int (s.1 1132 1), .ref 1133]) dd162_51 rfl ?_
      refine zGo_s (pc' := 53) (st' := [.long (((x1).toUInt64 >>> (((8 : Int32) * x4).toInt64.toUInt64 &&& Int64.toUInt64 63)).toInt64), .int (s.1 1132 1), .ref 1133]) dd162_52 rfl ?_
      refine zGo_s (pc' := 54) (st' := [.int ((((x1).toUInt64 >>> (((8 : Int32) * x4).toInt64.toUInt64 &&& Int64.toUInt64 63)).toInt64).toInt32), .int (s.1 1132 1), .ref 1133]) dd162_53 rfl ?_
      refine zGo_s (pc' := 57) (st' := [.int (255 : Int32), .int ((((x1).toUInt64 >>> (((8 : Int32) * x4).toInt64.toUInt64 &&& Int64.toUInt64 63)).toInt64).toInt32), .int (s.1 1132 1), .ref 1133]) dd162_54 rfl ?_
      refine zGo_s (pc' := 58) (st' := [.int (((((x1).toUInt64 >>> (((8 : Int32) * x4).toInt64.toUInt64 &&& Int64.toUInt64 63)).toInt64).toInt32) &&& (255 : Int32)), .int (s.1 1132 1), .ref 1133]) dd162_57 rfl ?_
      obtain ⟨hi, h⟩ := ochk h
      obtain ⟨u1, e_u1, h⟩ := olet h
      refine mIS dd162_58 rfl rfl hi e_u1 ?_
      refine zGo_s (pc' := 60) (st' := [.ref 1132]) dd162_59 rfl ?_
      refine zGo_s (pc' := 61) (st' := [.ref 1132, .ref 1132]) dd162_60 rfl ?_
      refine mGI dd162_61 rfl rfl rfl rfl ?_
      refine zGo_s (pc' := 65) (st' := [.int (1 : Int32), .int (u1.1 1132 1), .ref 1132]) dd162_64 rfl ?_
      refine zGo_s (pc' := 66) (st' := [.int ((u1.1 1132 1) + (1 : Int32)), .ref 1132]) dd162_65 rfl ?_
      obtain ⟨u2, e_u2, h⟩ := olet h
      refine mPI dd162_66 rfl rfl rfl rfl rfl rfl e_u2 ?_
      refine zGo_s (pc' := 72) (st' := []) (lv' := [(4, .int (x4 + (-1 : Int32))), (0, .ref 1132), (1, .long x1), (3, .int x3)]) dd162_69 rfl ?_
      refine zGo_s (pc' := 33) (st' := []) dd162_72 rfl ?_
      exact zGo_lv (lv := [(0, .ref 1132), (1, .long x1), (3, .int x3), (4, .int (x4 + (-1 : Int32)))]) ⟨by simp, by simp, by simp⟩ (ih _ _ _ _ _ _ h)
def f162 (n : Nat) (x1 : Int64) (x3 : Int32) (s : zσ) : Option (Int32 × zσ) :=
    if x3 < (0 : Int32) then
    some ((-2 : Int32), s)
    else if (8 : Int32) < x3 then
    some ((-2 : Int32), s)
    else if (4000 : Int32) < ((s.1 1132 1) + x3) then
    some ((-4 : Int32), s)
    else zlet ((x3 - (1 : Int32))) fun v1 =>
    f162_33 n n x1 x3 v1 s
set_option maxRecDepth 20000 in
theorem f162_ok {n d : Nat} {x1 : Int64} {x3 : Int32} {s : zσ} {v : Int32} {s2 : zσ} (hd : 0 ≤ d) (h : f162 n x1 x3 s = some (v, s2)) {w : zσ} {fz : Bool} {L : Nat} {xs : Nat → Int32} : zGo (zX fz L xs) d q_162 (0, [(0, .ref 1132), (1, .long x1), (3, .int x3)], [], zmk w s, 0, 0) (some (.int v), zmk w s2, 0, 0) := by
  unfold f162 at h
  refine zGo_s (pc' := 1) (st' := [.int x3]) dd162_0 rfl ?_
  rcases oite h with ⟨hc, h⟩ | ⟨hc, h⟩
  · refine zUT dd162_1 rfl (kLtT hc) ?_
    refine zGo_s (pc' := 12) (st' := [.int (-2 : Int32)]) dd162_10 rfl ?_
    obtain ⟨rfl, rfl⟩ := oret h
    exact zGo_ret dd162_12 rfl rfl
  · refine zUF dd162_1 (kLtF hc) ?_
    refine zGo_s (pc' := 5) (st' := [.int x3]) dd162_4 rfl ?_
    refine zGo_s (pc' := 7) (st' := [.int (8 : Int32), .int x3]) dd162_5 rfl ?_
    rcases oite h with ⟨hc, h⟩ | ⟨hc, h⟩
    · refine zIF dd162_7 (kLeF hc) ?_
      refine zGo_s (pc' := 12) (st' := [.int (-2 : Int32)]) dd162_10 rfl ?_
      obtain ⟨rfl, rfl⟩ := oret h
      exact zGo_ret dd162_12 rfl rfl
    · refine zIT dd162_7 rfl (kLeT hc) ?_
      refine zGo_s (pc' := 14) (st' := [.ref 1132]) dd162_13 rfl ?_
      refine mGI dd162_14 rfl rfl rfl rfl ?_
      refine zGo_s (pc' := 18) (st' := [.int x3, .int (s.1 1132 1)]) dd162_17 rfl ?_
      refine zGo_s (pc' := 19) (st' := [.int ((s.1 1132 1) + x3)]) dd162_18 rfl ?_
      refine zGo_s (pc' := 22) (st' := [.int (4000 : Int32), .int ((s.1 1132 1) + x3)]) dd162_19 rfl ?_
      rcases oite h with ⟨hc, h⟩ | ⟨hc, h⟩
      · refine zIF dd162_22 (kLeF hc) ?_
        refine zGo_s (pc' := 27) (st' := [.int (-4 : Int32)]) dd162_25 rfl ?_
        obtain ⟨rfl, rfl⟩ := oret h
        exact zGo_ret dd162_27 rfl rfl
      · refine zIT dd162_22 rfl (kLeT hc) ?_
        refine zGo_s (pc' := 29) (st' := [.int x3]) dd162_28 rfl ?_
        refine zGo_s (pc' := 30) (st' := [.int (1 : Int32), .int x3]) dd162_29 rfl ?_
        refine zGo_s (pc' := 31) (st' := [.int (x3 - (1 : Int32))]) dd162_30 rfl ?_
        obtain ⟨v1, e_v1, h⟩ := olet h
        refine zGo_is1 e_v1 dd162_31 (x' := (33, [(4, .int v1), (0, .ref 1132), (1, .long x1), (3, .int x3)], [], _, _, _)) rfl ?_
        exact zGo_lv (lv := [(0, .ref 1132), (1, .long x1), (3, .int x3), (4, .int v1)]) ⟨by simp, by simp, by simp⟩ (f162_33_ok hd _ _ _ _ _ _ _ h)
/-! PHModel.isLetter(I)Z -/
theorem dd165_0 : decode cX13_isLetter 0 = .ok (.iload_n 0, 1) := by decide +kernel
theorem dd165_1 : decode cX13_isLetter 1 = .ok (.bipush 97, 2) := by decide +kernel
theorem dd165_3 : decode cX13_isLetter 3 = .ok (.if_icmp .lt 13, 3) := by decide +kernel
theorem dd165_6 : decode cX13_isLetter 6 = .ok (.iload_n 0, 1) := by decide +kernel
theorem dd165_7 : decode cX13_isLetter 7 = .ok (.bipush 122, 2) := by decide +kernel
theorem dd165_9 : decode cX13_isLetter 9 = .ok (.if_icmp .gt 7, 3) := by decide +kernel
theorem dd165_12 : decode cX13_isLetter 12 = .ok (.iconst 1, 1) := by decide +kernel
theorem dd165_13 : decode cX13_isLetter 13 = .ok (.goto 4, 3) := by decide +kernel
theorem dd165_16 : decode cX13_isLetter 16 = .ok (.iconst 0, 1) := by decide +kernel
theorem dd165_17 : decode cX13_isLetter 17 = .ok (.ireturn, 1) := by decide +kernel
def f165 (n : Nat) (x0 : Int32) (s : zσ) : Option (Int32 × zσ) :=
    if x0 < (97 : Int32) then
    some ((0 : Int32), s)
    else if (122 : Int32) < x0 then
    some ((0 : Int32), s)
    else some ((1 : Int32), s)
set_option maxRecDepth 20000 in
theorem f165_ok {n d : Nat} {x0 : Int32} {s : zσ} {v : Int32} {s2 : zσ} (hd : 0 ≤ d) (h : f165 n x0 s = some (v, s2)) {w : zσ} {fz : Bool} {L : Nat} {xs : Nat → Int32} : zGo (zX fz L xs) d q_165 (0, [(0, .int x0)], [], zmk w s, 0, 0) (some (.int v), zmk w s2, 0, 0) := by
  unfold f165 at h
  refine zGo_s (pc' := 1) (st' := [.int x0]) dd165_0 rfl ?_
  refine zGo_s (pc' := 3) (st' := [.int (97 : Int32), .int x0]) dd165_1 rfl ?_
  rcases oite h with ⟨hc, h⟩ | ⟨hc, h⟩
  · refine zIT dd165_3 rfl (kLtT hc) ?_
    refine zGo_s (pc' := 17) (st' := [.int (0 : Int32)]) dd165_16 rfl ?_
    obtain ⟨rfl, rfl⟩ := oret h
    exact zGo_ret dd165_17 rfl rfl
  · refine zIF dd165_3 (kLtF hc) ?_
    refine zGo_s (pc' := 7) (st' := [.int x0]) dd165_6 rfl ?_
    refine zGo_s (pc' := 9) (st' := [.int (122 : Int32), .int x0]) dd165_7 rfl ?_
    rcases oite h with ⟨hc, h⟩ | ⟨hc, h⟩
    · refine zIT dd165_9 rfl (kGtT hc) ?_
      refine zGo_s (pc' := 17) (st' := [.int (0 : Int32)]) dd165_16 rfl ?_
      obtain ⟨rfl, rfl⟩ := oret h
      exact zGo_ret dd165_17 rfl rfl
    · refine zIF dd165_9 (kGtF hc) ?_
      refine zGo_s (pc' := 13) (st' := [.int (1 : Int32)]) dd165_12 rfl ?_
      refine zGo_s (pc' := 17) (st' := [.int (1 : Int32)]) dd165_13 rfl ?_
      obtain ⟨rfl, rfl⟩ := oret h
      exact zGo_ret dd165_17 rfl rfl
/-! PHModel.isFigure(I)Z -/
theorem dd166_0 : decode cX13_isFigure 0 = .ok (.iload_n 0, 1) := by decide +kernel
theorem dd166_1 : decode cX13_isFigure 1 = .ok (.bipush 48, 2) := by decide +kernel
theorem dd166_3 : decode cX13_isFigure 3 = .ok (.if_icmp .lt 13, 3) := by decide +kernel
theorem dd166_6 : decode cX13_isFigure 6 = .ok (.iload_n 0, 1) := by decide +kernel
theorem dd166_7 : decode cX13_isFigure 7 = .ok (.bipush 57, 2) := by decide +kernel
theorem dd166_9 : decode cX13_isFigure 9 = .ok (.if_icmp .gt 7, 3) := by decide +kernel
theorem dd166_12 : decode cX13_isFigure 12 = .ok (.iconst 1, 1) := by decide +kernel
theorem dd166_13 : decode cX13_isFigure 13 = .ok (.goto 4, 3) := by decide +kernel
theorem dd166_16 : decode cX13_isFigure 16 = .ok (.iconst 0, 1) := by decide +kernel
theorem dd166_17 : decode cX13_isFigure 17 = .ok (.ireturn, 1) := by decide +kernel
def f166 (n : Nat) (x0 : Int32) (s : zσ) : Option (Int32 × zσ) :=
    if x0 < (48 : Int32) then
    some ((0 : Int32), s)
    else if (57 : Int32) < x0 then
    some ((0 : Int32), s)
    else some ((1 : Int32), s)
set_option maxRecDepth 20000 in
theorem f166_ok {n d : Nat} {x0 : Int32} {s : zσ} {v : Int32} {s2 : zσ} (hd : 0 ≤ d) (h : f166 n x0 s = some (v, s2)) {w : zσ} {fz : Bool} {L : Nat} {xs : Nat → Int32} : zGo (zX fz L xs) d q_166 (0, [(0, .int x0)], [], zmk w s, 0, 0) (some (.int v), zmk w s2, 0, 0) := by
  unfold f166 at h
  refine zGo_s (pc' := 1) (st' := [.int x0]) dd166_0 rfl ?_
  refine zGo_s (pc' := 3) (st' := [.int (48 : Int32), .int x0]) dd166_1 rfl ?_
  rcases oite h with ⟨hc, h⟩ | ⟨hc, h⟩
  · refine zIT dd166_3 rfl (kLtT hc) ?_
    refine zGo_s (pc' := 17) (st' := [.int (0 : Int32)]) dd166_16 rfl ?_
    obtain ⟨rfl, rfl⟩ := oret h
    exact zGo_ret dd166_17 rfl rfl
  · refine zIF dd166_3 (kLtF hc) ?_
    refine zGo_s (pc' := 7) (st' := [.int x0]) dd166_6 rfl ?_
    refine zGo_s (pc' := 9) (st' := [.int (57 : Int32), .int x0]) dd166_7 rfl ?_
    rcases oite h with ⟨hc, h⟩ | ⟨hc, h⟩
    · refine zIT dd166_9 rfl (kGtT hc) ?_
      refine zGo_s (pc' := 17) (st' := [.int (0 : Int32)]) dd166_16 rfl ?_
      obtain ⟨rfl, rfl⟩ := oret h
      exact zGo_ret dd166_17 rfl rfl
    · refine zIF dd166_9 (kGtF hc) ?_
      refine zGo_s (pc' := 13) (st' := [.int (1 : Int32)]) dd166_12 rfl ?_
      refine zGo_s (pc' := 17) (st' := [.int (1 : Int32)]) dd166_13 rfl ?_
      obtain ⟨rfl, rfl⟩ := oret h
      exact zGo_ret dd166_17 rfl rfl
/-! PHModel.next()V -/
theorem dd164_0 : decode cX13_next 0 = .ok (.aload_n 0, 1) := by decide +kernel
theorem dd164_1 : decode cX13_next 1 = .ok (.getfield 173, 3) := by decide +kernel
theorem dd164_4 : decode cX13_next 4 = .ok (.istore_n 1, 1) := by decide +kernel
theorem dd164_5 : decode cX13_next 5 = .ok (.iload_n 1, 1) := by decide +kernel
theorem dd164_6 : decode cX13_next 6 = .ok (.aload_n 0, 1) := by decide +kernel
theorem dd164_7 : decode cX13_next 7 = .ok (.getfield 164, 3) := by decide +kernel
theorem dd164_10 : decode cX13_next 10 = .ok (.if_icmp .ge 31, 3) := by decide +kernel
theorem dd164_13 : decode cX13_next 13 = .ok (.aload_n 0, 1) := by decide +kernel
theorem dd164_14 : decode cX13_next 14 = .ok (.getfield 7, 3) := by decide +kernel
theorem dd164_17 : decode cX13_next 17 = .ok (.iload_n 1, 1) := by decide +kernel
theorem dd164_18 : decode cX13_next 18 = .ok (.iaload, 1) := by decide +kernel
theorem dd164_19 : decode cX13_next 19 = .ok (.bipush 10, 2) := by decide +kernel
theorem dd164_21 : decode cX13_next 21 = .ok (.if_icmp .eq 14, 3) := by decide +kernel
theorem dd164_24 : decode cX13_next 24 = .ok (.aload_n 0, 1) := by decide +kernel
theorem dd164_25 : decode cX13_next 25 = .ok (.getfield 7, 3) := by decide +kernel
theorem dd164_28 : decode cX13_next 28 = .ok (.iload_n 1, 1) := by decide +kernel
theorem dd164_29 : decode cX13_next 29 = .ok (.iaload, 1) := by decide +kernel
theorem dd164_30 : decode cX13_next 30 = .ok (.bipush 32, 2) := by decide +kernel
theorem dd164_32 : decode cX13_next 32 = .ok (.if_icmp .ne 9, 3) := by decide +kernel
theorem dd164_35 : decode cX13_next 35 = .ok (.iinc 1 1, 3) := by decide +kernel
theorem dd164_38 : decode cX13_next 38 = .ok (.goto (-33), 3) := by decide +kernel
theorem dd164_41 : decode cX13_next 41 = .ok (.aload_n 0, 1) := by decide +kernel
theorem dd164_42 : decode cX13_next 42 = .ok (.iload_n 1, 1) := by decide +kernel
theorem dd164_43 : decode cX13_next 43 = .ok (.putfield 176, 3) := by decide +kernel
theorem dd164_46 : decode cX13_next 46 = .ok (.iload_n 1, 1) := by decide +kernel
theorem dd164_47 : decode cX13_next 47 = .ok (.aload_n 0, 1) := by decide +kernel
theorem dd164_48 : decode cX13_next 48 = .ok (.getfield 164, 3) := by decide +kernel
theorem dd164_51 : decode cX13_next 51 = .ok (.if_icmp .ne 9, 3) := by decide +kernel
theorem dd164_54 : decode cX13_next 54 = .ok (.aload_n 0, 1) := by decide +kernel
theorem dd164_55 : decode cX13_next 55 = .ok (.iconst 0, 1) := by decide +kernel
theorem dd164_56 : decode cX13_next 56 = .ok (.putfield 179, 3) := by decide +kernel
theorem dd164_59 : decode cX13_next 59 = .ok (.return_, 1) := by decide +kernel
theorem dd164_60 : decode cX13_next 60 = .ok (.aload_n 0, 1) := by decide +kernel
theorem dd164_61 : decode cX13_next 61 = .ok (.getfield 7, 3) := by decide +kernel
theorem dd164_64 : decode cX13_next 64 = .ok (.iload_n 1, 1) := by decide +kernel
theorem dd164_65 : decode cX13_next 65 = .ok (.iaload, 1) := by decide +kernel
theorem dd164_66 : decode cX13_next 66 = .ok (.istore_n 2, 1) := by decide +kernel
theorem dd164_67 : decode cX13_next 67 = .ok (.iload_n 2, 1) := by decide +kernel
theorem dd164_68 : decode cX13_next 68 = .ok (.invokestatic 182, 3) := by decide +kernel
theorem dd164_71 : decode cX13_next 71 = .ok (.ifCond .eq 88, 3) := by decide +kernel
theorem dd164_74 : decode cX13_next 74 = .ok (.aload_n 0, 1) := by decide +kernel
theorem dd164_75 : decode cX13_next 75 = .ok (.lconst 0, 1) := by decide +kernel
theorem dd164_76 : decode cX13_next 76 = .ok (.putfield 186, 3) := by decide +kernel
theorem dd164_79 : decode cX13_next 79 = .ok (.iload_n 1, 1) := by decide +kernel
theorem dd164_80 : decode cX13_next 80 = .ok (.aload_n 0, 1) := by decide +kernel
theorem dd164_81 : decode cX13_next 81 = .ok (.getfield 164, 3) := by decide +kernel
theorem dd164_84 : decode cX13_next 84 = .ok (.if_icmp .ge 52, 3) := by decide +kernel
theorem dd164_87 : decode cX13_next 87 = .ok (.aload_n 0, 1) := by decide +kernel
theorem dd164_88 : decode cX13_next 88 = .ok (.getfield 7, 3) := by decide +kernel
theorem dd164_91 : decode cX13_next 91 = .ok (.iload_n 1, 1) := by decide +kernel
theorem dd164_92 : decode cX13_next 92 = .ok (.iaload, 1) := by decide +kernel
theorem dd164_93 : decode cX13_next 93 = .ok (.invokestatic 182, 3) := by decide +kernel
theorem dd164_96 : decode cX13_next 96 = .ok (.ifCond .ne 15, 3) := by decide +kernel
theorem dd164_99 : decode cX13_next 99 = .ok (.aload_n 0, 1) := by decide +kernel
theorem dd164_100 : decode cX13_next 100 = .ok (.getfield 7, 3) := by decide +kernel
theorem dd164_103 : decode cX13_next 103 = .ok (.iload_n 1, 1) := by decide +kernel
theorem dd164_104 : decode cX13_next 104 = .ok (.iaload, 1) := by decide +kernel
theorem dd164_105 : decode cX13_next 105 = .ok (.invokestatic 190, 3) := by decide +kernel
theorem dd164_108 : decode cX13_next 108 = .ok (.ifCond .eq 28, 3) := by decide +kernel
theorem dd164_111 : decode cX13_next 111 = .ok (.aload_n 0, 1) := by decide +kernel
theorem dd164_112 : decode cX13_next 112 = .ok (.aload_n 0, 1) := by decide +kernel
theorem dd164_113 : decode cX13_next 113 = .ok (.getfield 186, 3) := by decide +kernel
theorem dd164_116 : decode cX13_next 116 = .ok (.bipush 8, 2) := by decide +kernel
theorem dd164_118 : decode cX13_next 118 = .ok (.lshl, 1) := by decide +kernel
theorem dd164_119 : decode cX13_next 119 = .ok (.aload_n 0, 1) := by decide +kernel
theorem dd164_120 : decode cX13_next 120 = .ok (.getfield 7, 3) := by decide +kernel
theorem dd164_123 : decode cX13_next 123 = .ok (.iload_n 1, 1) := by decide +kernel
theorem dd164_124 : decode cX13_next 124 = .ok (.iaload, 1) := by decide +kernel
theorem dd164_125 : decode cX13_next 125 = .ok (.i2l, 1) := by decide +kernel
theorem dd164_126 : decode cX13_next 126 = .ok (.lor, 1) := by decide +kernel
theorem dd164_127 : decode cX13_next 127 = .ok (.putfield 186, 3) := by decide +kernel
theorem dd164_130 : decode cX13_next 130 = .ok (.iinc 1 1, 3) := by decide +kernel
theorem dd164_133 : decode cX13_next 133 = .ok (.goto (-54), 3) := by decide +kernel
theorem dd164_136 : decode cX13_next 136 = .ok (.aload_n 0, 1) := by decide +kernel
theorem dd164_137 : decode cX13_next 137 = .ok (.iload_n 1, 1) := by decide +kernel
theorem dd164_138 : decode cX13_next 138 = .ok (.aload_n 0, 1) := by decide +kernel
theorem dd164_139 : decode cX13_next 139 = .ok (.getfield 176, 3) := by decide +kernel
theorem dd164_142 : decode cX13_next 142 = .ok (.isub, 1) := by decide +kernel
theorem dd164_143 : decode cX13_next 143 = .ok (.bipush 8, 2) := by decide +kernel
theorem dd164_145 : decode cX13_next 145 = .ok (.if_icmp .le 7, 3) := by decide +kernel
theorem dd164_148 : decode cX13_next 148 = .ok (.iconst 4, 1) := by decide +kernel
theorem dd164_149 : decode cX13_next 149 = .ok (.goto 4, 3) := by decide +kernel
theorem dd164_152 : decode cX13_next 152 = .ok (.iconst 1, 1) := by decide +kernel
theorem dd164_153 : decode cX13_next 153 = .ok (.putfield 179, 3) := by decide +kernel
theorem dd164_156 : decode cX13_next 156 = .ok (.goto 129, 3) := by decide +kernel
theorem dd164_159 : decode cX13_next 159 = .ok (.iload_n 2, 1) := by decide +kernel
theorem dd164_160 : decode cX13_next 160 = .ok (.invokestatic 190, 3) := by decide +kernel
theorem dd164_163 : decode cX13_next 163 = .ok (.ifCond .eq 96, 3) := by decide +kernel
theorem dd164_166 : decode cX13_next 166 = .ok (.aload_n 0, 1) := by decide +kernel
theorem dd164_167 : decode cX13_next 167 = .ok (.iconst 0, 1) := by decide +kernel
theorem dd164_168 : decode cX13_next 168 = .ok (.putfield 193, 3) := by decide +kernel
theorem dd164_171 : decode cX13_next 171 = .ok (.iload_n 1, 1) := by decide +kernel
theorem dd164_172 : decode cX13_next 172 = .ok (.aload_n 0, 1) := by decide +kernel
theorem dd164_173 : decode cX13_next 173 = .ok (.getfield 164, 3) := by decide +kernel
theorem dd164_176 : decode cX13_next 176 = .ok (.if_icmp .ge 60, 3) := by decide +kernel
theorem dd164_179 : decode cX13_next 179 = .ok (.aload_n 0, 1) := by decide +kernel
theorem dd164_180 : decode cX13_next 180 = .ok (.getfield 7, 3) := by decide +kernel
theorem dd164_183 : decode cX13_next 183 = .ok (.iload_n 1, 1) := by decide +kernel
theorem dd164_184 : decode cX13_next 184 = .ok (.iaload, 1) := by decide +kernel
theorem dd164_185 : decode cX13_next 185 = .ok (.invokestatic 190, 3) := by decide +kernel
theorem dd164_188 : decode cX13_next 188 = .ok (.ifCond .eq 48, 3) := by decide +kernel
theorem dd164_191 : decode cX13_next 191 = .ok (.aload_n 0, 1) := by decide +kernel
theorem dd164_192 : decode cX13_next 192 = .ok (.iload_n 1, 1) := by decide +kernel
theorem dd164_193 : decode cX13_next 193 = .ok (.aload_n 0, 1) := by decide +kernel
theorem dd164_194 : decode cX13_next 194 = .ok (.getfield 176, 3) := by decide +kernel
theorem dd164_197 : decode cX13_next 197 = .ok (.isub, 1) := by decide +kernel
theorem dd164_198 : decode cX13_next 198 = .ok (.bipush 9, 2) := by decide +kernel
theorem dd164_200 : decode cX13_next 200 = .ok (.if_icmp .ge 23, 3) := by decide +kernel
theorem dd164_203 : decode cX13_next 203 = .ok (.bipush 10, 2) := by decide +kernel
theorem dd164_205 : decode cX13_next 205 = .ok (.aload_n 0, 1) := by decide +kernel
theorem dd164_206 : decode cX13_next 206 = .ok (.getfield 193, 3) := by decide +kernel
theorem dd164_209 : decode cX13_next 209 = .ok (.imul, 1) := by decide +kernel
theorem dd164_210 : decode cX13_next 210 = .ok (.aload_n 0, 1) := by decide +kernel
theorem dd164_211 : decode cX13_next 211 = .ok (.getfield 7, 3) := by decide +kernel
theorem dd164_214 : decode cX13_next 214 = .ok (.iload_n 1, 1) := by decide +kernel
theorem dd164_215 : decode cX13_next 215 = .ok (.iaload, 1) := by decide +kernel
theorem dd164_216 : decode cX13_next 216 = .ok (.iadd, 1) := by decide +kernel
theorem dd164_217 : decode cX13_next 217 = .ok (.bipush 48, 2) := by decide +kernel
theorem dd164_219 : decode cX13_next 219 = .ok (.isub, 1) := by decide +kernel
theorem dd164_220 : decode cX13_next 220 = .ok (.goto 7, 3) := by decide +kernel
theorem dd164_223 : decode cX13_next 223 = .ok (.aload_n 0, 1) := by decide +kernel
theorem dd164_224 : decode cX13_next 224 = .ok (.getfield 193, 3) := by decide +kernel
theorem dd164_227 : decode cX13_next 227 = .ok (.putfield 193, 3) := by decide +kernel
theorem dd164_230 : decode cX13_next 230 = .ok (.iinc 1 1, 3) := by decide +kernel
theorem dd164_233 : decode cX13_next 233 = .ok (.goto (-62), 3) := by decide +kernel
theorem dd164_236 : decode cX13_next 236 = .ok (.aload_n 0, 1) := by decide +kernel
theorem dd164_237 : decode cX13_next 237 = .ok (.iload_n 1, 1) := by decide +kernel
theorem dd164_238 : decode cX13_next 238 = .ok (.aload_n 0, 1) := by decide +kernel
theorem dd164_239 : decode cX13_next 239 = .ok (.getfield 176, 3) := by decide +kernel
theorem dd164_242 : decode cX13_next 242 = .ok (.isub, 1) := by decide +kernel
theorem dd164_243 : decode cX13_next 243 = .ok (.bipush 9, 2) := by decide +kernel
theorem dd164_245 : decode cX13_next 245 = .ok (.if_icmp .le 7, 3) := by decide +kernel
theorem dd164_248 : decode cX13_next 248 = .ok (.iconst 4, 1) := by decide +kernel
theorem dd164_249 : decode cX13_next 249 = .ok (.goto 4, 3) := by decide +kernel
theorem dd164_252 : decode cX13_next 252 = .ok (.iconst 2, 1) := by decide +kernel
theorem dd164_253 : decode cX13_next 253 = .ok (.putfield 179, 3) := by decide +kernel
theorem dd164_256 : decode cX13_next 256 = .ok (.goto 29, 3) := by decide +kernel
theorem dd164_259 : decode cX13_next 259 = .ok (.aload_n 0, 1) := by decide +kernel
theorem dd164_260 : decode cX13_next 260 = .ok (.ldc 196, 2) := by decide +kernel
theorem dd164_262 : decode cX13_next 262 = .ok (.iload_n 2, 1) := by decide +kernel
theorem dd164_263 : decode cX13_next 263 = .ok (.invokevirtual 198, 3) := by decide +kernel
theorem dd164_266 : decode cX13_next 266 = .ok (.ifCond .ge 7, 3) := by decide +kernel
theorem dd164_269 : decode cX13_next 269 = .ok (.iconst 4, 1) := by decide +kernel
theorem dd164_270 : decode cX13_next 270 = .ok (.goto 4, 3) := by decide +kernel
theorem dd164_273 : decode cX13_next 273 = .ok (.iconst 3, 1) := by decide +kernel
theorem dd164_274 : decode cX13_next 274 = .ok (.putfield 179, 3) := by decide +kernel
theorem dd164_277 : decode cX13_next 277 = .ok (.aload_n 0, 1) := by decide +kernel
theorem dd164_278 : decode cX13_next 278 = .ok (.iload_n 2, 1) := by decide +kernel
theorem dd164_279 : decode cX13_next 279 = .ok (.putfield 204, 3) := by decide +kernel
theorem dd164_282 : decode cX13_next 282 = .ok (.iinc 1 1, 3) := by decide +kernel
theorem dd164_285 : decode cX13_next 285 = .ok (.aload_n 0, 1) := by decide +kernel
theorem dd164_286 : decode cX13_next 286 = .ok (.iload_n 1, 1) := by decide +kernel
theorem dd164_287 : decode cX13_next 287 = .ok (.putfield 173, 3) := by decide +kernel
theorem dd164_290 : decode cX13_next 290 = .ok (.return_, 1) := by decide +kernel
def f164_285 (n : Nat) (x1 : Int32) (s : zσ) : Option zσ :=
    zlet (sI s 1132 5 x1) fun u1 =>
    some u1
set_option maxRecDepth 20000 in
theorem f164_285_ok {n d : Nat} {x1 : Int32} {s : zσ} {s2 : zσ} (hd : 7 ≤ d) (h : f164_285 n x1 s = some s2) {w : zσ} {fz : Bool} {L : Nat} {xs : Nat → Int32} : zGo (zX fz L xs) d q_164 (285, [(0, .ref 1132), (1, .int x1)], [], zmk w s, 0, 0) (none, zmk w s2, 0, 0) := by
  obtain ⟨d, rfl⟩ : ∃ d0, d = d0 + 1 := ⟨d - 1, by omega⟩
  unfold f164_285 at h
  refine zGo_s (pc' := 286) (st' := [.ref 1132]) dd164_285 rfl ?_
  refine zGo_s (pc' := 287) (st' := [.int x1, .ref 1132]) dd164_286 rfl ?_
  obtain ⟨u1, e_u1, h⟩ := olet h
  refine mPI dd164_287 rfl rfl rfl rfl rfl rfl e_u1 ?_
  obtain rfl := ore0 h
  exact zGo_ret dd164_290 rfl rfl
def f164_274 (n : Nat) (x1 : Int32) (x2 : Int32) (y0 : Int32) (s : zσ) : Option zσ :=
    zlet (sI s 1132 3 y0) fun u1 =>
    zlet (sI u1 1132 8 x2) fun u2 =>
    f164_285 n (x1 + (1 : Int32)) u2
set_option maxRecDepth 20000 in
theorem f164_274_ok {n d : Nat} {x1 : Int32} {x2 : Int32} {y0 : Int32} {s : zσ} {s2 : zσ} (hd : 7 ≤ d) (h : f164_274 n x1 x2 y0 s = some s2) {w : zσ} {fz : Bool} {L : Nat} {xs : Nat → Int32} : zGo (zX fz L xs) d q_164 (274, [(0, .ref 1132), (1, .int x1), (2, .int x2)], [.int y0, .ref 1132], zmk w s, 0, 0) (none, zmk w s2, 0, 0) := by
  obtain ⟨d, rfl⟩ : ∃ d0, d = d0 + 1 := ⟨d - 1, by omega⟩
  unfold f164_274 at h
  obtain ⟨u1, e_u1, h⟩ := olet h
  refine mPI dd164_274 rfl rfl rfl rfl rfl rfl e_u1 ?_
  refine zGo_s (pc' := 278) (st' := [.ref 1132]) dd164_277 rfl ?_
  refine zGo_s (pc' := 279) (st' := [.int x2, .ref 1132]) dd164_278 rfl ?_
  obtain ⟨u2, e_u2, h⟩ := olet h
  refine mPI dd164_279 rfl rfl rfl rfl rfl rfl e_u2 ?_
  refine zGo_s (pc' := 285) (st' := []) (lv' := [(1, .int (x1 + (1 : Int32))), (0, .ref 1132), (2, .int x2)]) dd164_282 rfl ?_
  exact zGo_lv (lv := [(0, .ref 1132), (1, .int (x1 + (1 : Int32)))]) ⟨by simp, by simp, by simp⟩ (f164_285_ok hd h)
def f164_253 (n : Nat) (x1 : Int32) (y0 : Int32) (s : zσ) : Option zσ :=
    zlet (sI s 1132 3 y0) fun u1 =>
    f164_285 n x1 u1
set_option maxRecDepth 20000 in
theorem f164_253_ok {n d : Nat} {x1 : Int32} {y0 : Int32} {s : zσ} {s2 : zσ} (hd : 7 ≤ d) (h : f164_253 n x1 y0 s = some s2) {w : zσ} {fz : Bool} {L : Nat} {xs : Nat → Int32} : zGo (zX fz L xs) d q_164 (253, [(0, .ref 1132), (1, .int x1)], [.int y0, .ref 1132], zmk w s, 0, 0) (none, zmk w s2, 0, 0) := by
  obtain ⟨d, rfl⟩ : ∃ d0, d = d0 + 1 := ⟨d - 1, by omega⟩
  unfold f164_253 at h
  obtain ⟨u1, e_u1, h⟩ := olet h
  refine mPI dd164_253 rfl rfl rfl rfl rfl rfl e_u1 ?_
  refine zGo_s (pc' := 285) (st' := []) dd164_256 rfl ?_
  exact f164_285_ok hd h
def f164_236 (n : Nat) (x1 : Int32) (s : zσ) : Option zσ :=
    if (9 : Int32) < (x1 - (s.1 1132 4)) then
    f164_253 n x1 (4 : Int32) s
    else f164_253 n x1 (2 : Int32) s
set_option maxRecDepth 20000 in
theorem f164_236_ok {n d : Nat} {x1 : Int32} {s : zσ} {s2 : zσ} (hd : 7 ≤ d) (h : f164_236 n x1 s = some s2) {w : zσ} {fz : Bool} {L : Nat} {xs : Nat → Int32} : zGo (zX fz L xs) d q_164 (236, [(0, .ref 1132), (1, .int x1)], [], zmk w s, 0, 0) (none, zmk w s2, 0, 0) := by
  obtain ⟨d, rfl⟩ : ∃ d0, d = d0 + 1 := ⟨d - 1, by omega⟩
  unfold f164_236 at h
  refine zGo_s (pc' := 237) (st' := [.ref 1132]) dd164_236 rfl ?_
  refine zGo_s (pc' := 238) (st' := [.int x1, .ref 1132]) dd164_237 rfl ?_
  refine zGo_s (pc' := 239) (st' := [.ref 1132, .int x1, .ref 1132]) dd164_238 rfl ?_
  refine mGI dd164_239 rfl rfl rfl rfl ?_
  refine zGo_s (pc' := 243) (st' := [.int (x1 - (s.1 1132 4)), .ref 1132]) dd164_242 rfl ?_
  refine zGo_s (pc' := 245) (st' := [.int (9 : Int32), .int (x1 - (s.1 1132 4)), .ref 1132]) dd164_243 rfl ?_
  rcases oite h with ⟨hc, h⟩ | ⟨hc, h⟩
  · refine zIF dd164_245 (kLeF hc) ?_
    refine zGo_s (pc' := 249) (st' := [.int (4 : Int32), .ref 1132]) dd164_248 rfl ?_
    refine zGo_s (pc' := 253) (st' := [.int (4 : Int32), .ref 1132]) dd164_249 rfl ?_
    exact f164_253_ok hd h
  · refine zIT dd164_245 rfl (kLeT hc) ?_
    refine zGo_s (pc' := 253) (st' := [.int (2 : Int32), .ref 1132]) dd164_252 rfl ?_
    exact f164_253_ok hd h
def f164_227 (n : Nat) (r171 : Int32 → zσ → Option zσ) (x1 : Int32) (y0 : Int32) (s : zσ) : Option zσ :=
    zlet (sI s 1132 7 y0) fun u1 =>
    r171 (x1 + (1 : Int32)) u1
set_option maxRecDepth 20000 in
theorem f164_227_ok {n d : Nat} {r171 : Int32 → zσ → Option zσ} {x1 : Int32} {y0 : Int32} {s : zσ} {s2 : zσ} (hd : 7 ≤ d) (hr171 : ∀ (x1 : Int32) (s : zσ) (s2 : zσ), r171 x1 s = some s2 → ∀ {w : zσ} {fz : Bool} {L : Nat} {xs : Nat → Int32}, zGo (zX fz L xs) d q_164 (171, [(0, .ref 1132), (1, .int x1)], [], zmk w s, 0, 0) (none, zmk w s2, 0, 0)) (h : f164_227 n r171 x1 y0 s = some s2) {w : zσ} {fz : Bool} {L : Nat} {xs : Nat → Int32} : zGo (zX fz L xs) d q_164 (227, [(0, .ref 1132), (1, .int x1)], [.int y0, .ref 1132], zmk w s, 0, 0) (none, zmk w s2, 0, 0) := by
  obtain ⟨d, rfl⟩ : ∃ d0, d = d0 + 1 := ⟨d - 1, by omega⟩
  unfold f164_227 at h
  obtain ⟨u1, e_u1, h⟩ := olet h
  refine mPI dd164_227 rfl rfl rfl rfl rfl rfl e_u1 ?_
  refine zGo_s (pc' := 233) (st' := []) (lv' := [(1, .int (x1 + (1 : Int32))), (0, .ref 1132)]) dd164_230 rfl ?_
  refine zGo_s (pc' := 171) (st' := []) dd164_233 rfl ?_
  exact zGo_lv (lv := [(0, .ref 1132), (1, .int (x1 + (1 : Int32)))]) ⟨by simp, by simp, by simp⟩ (hr171 _ _ _ h)
def f164_171 (n : Nat) : Nat → Int32 → zσ → Option zσ
  | 0, _, _ => none
  | j + 1, x1, s =>
    if x1 < (s.1 1132 1) then
    if zin? x1 4000 = true then
    yb1 (f166 n (s.1 1133 (nx x1)) s) fun v2 u1 =>
    if v2 = (0 : Int32) then
    f164_236 n x1 u1
    else if (x1 - (u1.1 1132 4)) < (9 : Int32) then
    if zin? x1 4000 = true then
    f164_227 n (f164_171 n j) x1 ((((10 : Int32) * (u1.1 1132 7)) + (u1.1 1133 (nx x1))) - (48 : Int32)) u1
    else none
    else f164_227 n (f164_171 n j) x1 (u1.1 1132 7) u1
    else none
    else f164_236 n x1 s
set_option maxRecDepth 20000 in
theorem f164_171_ok {n d : Nat} (hd : 7 ≤ d) : ∀ (j : Nat) (x1 : Int32) (s : zσ) (s2 : zσ), f164_171 n j x1 s = some s2 → ∀ {w : zσ} {fz : Bool} {L : Nat} {xs : Nat → Int32}, zGo (zX fz L xs) d q_164 (171, [(0, .ref 1132), (1, .int x1)], [], zmk w s, 0, 0) (none, zmk w s2, 0, 0) := by
  obtain ⟨d, rfl⟩ : ∃ d0, d = d0 + 1 := ⟨d - 1, by omega⟩
  intro j
  induction j with
  | zero => intro x1 s s2 h; cases h
  | succ j ih =>
    intro x1 s s2 h w fz L xs
    rw [f164_171] at h
    refine zGo_s (pc' := 172) (st' := [.int x1]) dd164_171 rfl ?_
    refine zGo_s (pc' := 173) (st' := [.ref 1132, .int x1]) dd164_172 rfl ?_
    refine mGI dd164_173 rfl rfl rfl rfl ?_
    rcases oite h with ⟨hc, h⟩ | ⟨hc, h⟩
    · refine zIF dd164_176 (kGeF hc) ?_
      refine zGo_s (pc' := 180) (st' := [.ref 1132]) dd164_179 rfl ?_
      refine mGF (e := 1133) dd164_180 rfl rfl rfl rfl rfl ?_
      refine zGo_s (pc' := 184) (st' := [.int x1, .ref 1133]) dd164_183 rfl ?_
      obtain ⟨hi, h⟩ := ochk h
      refine mIA dd164_184 rfl rfl hi ?_
      obtain ⟨v2, u1, hq, h⟩ := obnd h
      refine zCS1 (As := [.int (s.1 1133 (nx x1))]) (rest := []) (q' := q_166) dd164_185 rfl rfl rfl rfl rfl (f166_ok (d := d) (by omega)  hq) ?_
      rcases oite h with ⟨hc, h⟩ | ⟨hc, h⟩
      · refine zUT dd164_188 rfl (kEqT hc) ?_
        exact f164_236_ok hd h
      · refine zUF dd164_188 (kEqF hc) ?_
        refine zGo_s (pc' := 192) (st' := [.ref 1132]) dd164_191 rfl ?_
        refine zGo_s (pc' := 193) (st' := [.int x1, .ref 1132]) dd164_192 rfl ?_
        refine zGo_s (pc' := 194) (st' := [.ref 1132, .int x1, .ref 1132]) dd164_193 rfl ?_
        refine mGI dd164_194 rfl rfl rfl rfl ?_
        refine zGo_s (pc' := 198) (st' := [.int (x1 - (u1.1 1132 4)), .ref 1132]) dd164_197 rfl ?_
        refine zGo_s (pc' := 200) (st' := [.int (9 : Int32), .int (x1 - (u1.1 1132 4)), .ref 1132]) dd164_198 rfl ?_
        rcases oite h with ⟨hc, h⟩ | ⟨hc, h⟩
        · refine zIF dd164_200 (kGeF hc) ?_
          refine zGo_s (pc' := 205) (st' := [.int (10 : Int32), .ref 1132]) dd164_203 rfl ?_
          refine zGo_s (pc' := 206) (st' := [.ref 1132, .int (10 : Int32), .ref 1132]) dd164_205 rfl ?_
          refine mGI dd164_206 rfl rfl rfl rfl ?_
          refine zGo_s (pc' := 210) (st' := [.int ((10 : Int32) * (u1.1 1132 7)), .ref 1132]) dd164_209 rfl ?_
          refine zGo_s (pc' := 211) (st' := [.ref 1132, .int ((10 : Int32) * (u1.1 1132 7)), .ref 1132]) dd164_210 rfl ?_
          refine mGF (e := 1133) dd164_211 rfl rfl rfl rfl rfl ?_
          refine zGo_s (pc' := 215) (st' := [.int x1, .ref 1133, .int ((10 : Int32) * (u1.1 1132 7)), .ref 1132]) dd164_214 rfl ?_
          obtain ⟨hi, h⟩ := ochk h
          refine mIA dd164_215 rfl rfl hi ?_
          refine zGo_s (pc' := 217) (st' := [.int (((10 : Int32) * (u1.1 1132 7)) + (u1.1 1133 (nx x1))), .ref 1132]) dd164_216 rfl ?_
          refine zGo_s (pc' := 219) (st' := [.int (48 : Int32), .int (((10 : Int32) * (u1.1 1132 7)) + (u1.1 1133 (nx x1))), .ref 1132]) dd164_217 rfl ?_
          refine zGo_s (pc' := 220) (st' := [.int ((((10 : Int32) * (u1.1 1132 7)) + (u1.1 1133 (nx x1))) - (48 : Int32)), .ref 1132]) dd164_219 rfl ?_
          refine zGo_s (pc' := 227) (st' := [.int ((((10 : Int32) * (u1.1 1132 7)) + (u1.1 1133 (nx x1))) - (48 : Int32)), .ref 1132]) dd164_220 rfl ?_
          exact f164_227_ok hd ih h
        · refine zIT dd164_200 rfl (kGeT hc) ?_
          refine zGo_s (pc' := 224) (st' := [.ref 1132, .ref 1132]) dd164_223 rfl ?_
          refine mGI dd164_224 rfl rfl rfl rfl ?_
          exact f164_227_ok hd ih h
    · refine zIT dd164_176 rfl (kGeT hc) ?_
      exact f164_236_ok hd h
def f164_153 (n : Nat) (x1 : Int32) (y0 : Int32) (s : zσ) : Option zσ :=
    zlet (sI s 1132 3 y0) fun u1 =>
    f164_285 n x1 u1
set_option maxRecDepth 20000 in
theorem f164_153_ok {n d : Nat} {x1 : Int32} {y0 : Int32} {s : zσ} {s2 : zσ} (hd : 7 ≤ d) (h : f164_153 n x1 y0 s = some s2) {w : zσ} {fz : Bool} {L : Nat} {xs : Nat → Int32} : zGo (zX fz L xs) d q_164 (153, [(0, .ref 1132), (1, .int x1)], [.int y0, .ref 1132], zmk w s, 0, 0) (none, zmk w s2, 0, 0) := by
  obtain ⟨d, rfl⟩ : ∃ d0, d = d0 + 1 := ⟨d - 1, by omega⟩
  unfold f164_153 at h
  obtain ⟨u1, e_u1, h⟩ := olet h
  refine mPI dd164_153 rfl rfl rfl rfl rfl rfl e_u1 ?_
  refine zGo_s (pc' := 285) (st' := []) dd164_156 rfl ?_
  exact f164_285_ok hd h
def f164_136 (n : Nat) (x1 : Int32) (s : zσ) : Option zσ :=
    if (8 : Int32) < (x1 - (s.1 1132 4)) then
    f164_153 n x1 (4 : Int32) s
    else f164_153 n x1 (1 : Int32) s
set_option maxRecDepth 20000 in
theorem f164_136_ok {n d : Nat} {x1 : Int32} {s : zσ} {s2 : zσ} (hd : 7 ≤ d) (h : f164_136 n x1 s = some s2) {w : zσ} {fz : Bool} {L : Nat} {xs : Nat → Int32} : zGo (zX fz L xs) d q_164 (136, [(0, .ref 1132), (1, .int x1)], [], zmk w s, 0, 0) (none, zmk w s2, 0, 0) := by
  obtain ⟨d, rfl⟩ : ∃ d0, d = d0 + 1 := ⟨d - 1, by omega⟩
  unfold f164_136 at h
  refine zGo_s (pc' := 137) (st' := [.ref 1132]) dd164_136 rfl ?_
  refine zGo_s (pc' := 138) (st' := [.int x1, .ref 1132]) dd164_137 rfl ?_
  refine zGo_s (pc' := 139) (st' := [.ref 1132, .int x1, .ref 1132]) dd164_138 rfl ?_
  refine mGI dd164_139 rfl rfl rfl rfl ?_
  refine zGo_s (pc' := 143) (st' := [.int (x1 - (s.1 1132 4)), .ref 1132]) dd164_142 rfl ?_
  refine zGo_s (pc' := 145) (st' := [.int (8 : Int32), .int (x1 - (s.1 1132 4)), .ref 1132]) dd164_143 rfl ?_
  rcases oite h with ⟨hc, h⟩ | ⟨hc, h⟩
  · refine zIF dd164_145 (kLeF hc) ?_
    refine zGo_s (pc' := 149) (st' := [.int (4 : Int32), .ref 1132]) dd164_148 rfl ?_
    refine zGo_s (pc' := 153) (st' := [.int (4 : Int32), .ref 1132]) dd164_149 rfl ?_
    exact f164_153_ok hd h
  · refine zIT dd164_145 rfl (kLeT hc) ?_
    refine zGo_s (pc' := 153) (st' := [.int (1 : Int32), .ref 1132]) dd164_152 rfl ?_
    exact f164_153_ok hd h
def f164_111 (n : Nat) (r79 : Int32 → zσ → Option zσ) (x1 : Int32) (s : zσ) : Option zσ :=
    if zin? x1 4000 = true then
    zlet (sJ s 1132 6 (((s.2.1 1132 6) <<< ((8 : Int32).toInt64 &&& 63)) ||| ((s.1 1133 (nx x1)).toInt64))) fun u1 =>
    r79 (x1 + (1 : Int32)) u1
    else none
set_option maxRecDepth 20000 in
theorem f164_111_ok {n d : Nat} {r79 : Int32 → zσ → Option zσ} {x1 : Int32} {s : zσ} {s2 : zσ} (hd : 7 ≤ d) (hr79 : ∀ (x1 : Int32) (s : zσ) (s2 : zσ), r79 x1 s = some s2 → ∀ {w : zσ} {fz : Bool} {L : Nat} {xs : Nat → Int32}, zGo (zX fz L xs) d q_164 (79, [(0, .ref 1132), (1, .int x1)], [], zmk w s, 0, 0) (none, zmk w s2, 0, 0)) (h : f164_111 n r79 x1 s = some s2) {w : zσ} {fz : Bool} {L : Nat} {xs : Nat → Int32} : zGo (zX fz L xs) d q_164 (111, [(0, .ref 1132), (1, .int x1)], [], zmk w s, 0, 0) (none, zmk w s2, 0, 0) := by
  obtain ⟨d, rfl⟩ : ∃ d0, d = d0 + 1 := ⟨d - 1, by omega⟩
  unfold f164_111 at h
  refine zGo_s (pc' := 112) (st' := [.ref 1132]) dd164_111 rfl ?_
  refine zGo_s (pc' := 113) (st' := [.ref 1132, .ref 1132]) dd164_112 rfl ?_
  refine mGJ dd164_113 rfl rfl rfl rfl ?_
  refine zGo_s (pc' := 118) (st' := [.int (8 : Int32), .long (s.2.1 1132 6), .ref 1132]) dd164_116 rfl ?_
  refine zGo_s (pc' := 119) (st' := [.long ((s.2.1 1132 6) <<< ((8 : Int32).toInt64 &&& 63)), .ref 1132]) dd164_118 rfl ?_
  refine zGo_s (pc' := 120) (st' := [.ref 1132, .long ((s.2.1 1132 6) <<< ((8 : Int32).toInt64 &&& 63)), .ref 1132]) dd164_119 rfl ?_
  refine mGF (e := 1133) dd164_120 rfl rfl rfl rfl rfl ?_
  refine zGo_s (pc' := 124) (st' := [.int x1, .ref 1133, .long ((s.2.1 1132 6) <<< ((8 : Int32).toInt64 &&& 63)), .ref 1132]) dd164_123 rfl ?_
  obtain ⟨hi, h⟩ := ochk h
  refine mIA dd164_124 rfl rfl hi ?_
  refine zGo_s (pc' := 126) (st' := [.long ((s.1 1133 (nx x1)).toInt64), .long ((s.2.1 1132 6) <<< ((8 : Int32).toInt64 &&& 63)), .ref 1132]) dd164_125 rfl ?_
  refine zGo_s (pc' := 127) (st' := [.long (((s.2.1 1132 6) <<< ((8 : Int32).toInt64 &&& 63)) ||| ((s.1 1133 (nx x1)).toInt64)), .ref 1132]) dd164_126 rfl ?_
  obtain ⟨u1, e_u1, h⟩ := olet h
  refine mPJ dd164_127 rfl rfl rfl rfl rfl rfl e_u1 ?_
  refine zGo_s (pc' := 133) (st' := []) (lv' := [(1, .int (x1 + (1 : Int32))), (0, .ref 1132)]) dd164_130 rfl ?_
  refine zGo_s (pc' := 79) (st' := []) dd164_133 rfl ?_
  exact zGo_lv (lv := [(0, .ref 1132), (1, .int (x1 + (1 : Int32)))]) ⟨by simp, by simp, by simp⟩ (hr79 _ _ _ h)
def f164_79 (n : Nat) : Nat → Int32 → zσ → Option zσ
  | 0, _, _ => none
  | j + 1, x1, s =>
    if x1 < (s.1 1132 1) then
    if zin? x1 4000 = true then
    yb1 (f165 n (s.1 1133 (nx x1)) s) fun v2 u1 =>
    if v2 = (0 : Int32) then
    if zin? x1 4000 = true then
    yb1 (f166 n (u1.1 1133 (nx x1)) u1) fun v4 u3 =>
    if v4 = (0 : Int32) then
    f164_136 n x1 u3
    else f164_111 n (f164_79 n j) x1 u3
    else none
    else f164_111 n (f164_79 n j) x1 u1
    else none
    else f164_136 n x1 s
set_option maxRecDepth 20000 in
theorem f164_79_ok {n d : Nat} (hd : 7 ≤ d) : ∀ (j : Nat) (x1 : Int32) (s : zσ) (s2 : zσ), f164_79 n j x1 s = some s2 → ∀ {w : zσ} {fz : Bool} {L : Nat} {xs : Nat → Int32}, zGo (zX fz L xs) d q_164 (79, [(0, .ref 1132), (1, .int x1)], [], zmk w s, 0, 0) (none, zmk w s2, 0, 0) := by
  obtain ⟨d, rfl⟩ : ∃ d0, d = d0 + 1 := ⟨d - 1, by omega⟩
  intro j
  induction j with
  | zero => intro x1 s s2 h; cases h
  | succ j ih =>
    intro x1 s s2 h w fz L xs
    rw [f164_79] at h
    refine zGo_s (pc' := 80) (st' := [.int x1]) dd164_79 rfl ?_
    refine zGo_s (pc' := 81) (st' := [.ref 1132, .int x1]) dd164_80 rfl ?_
    refine mGI dd164_81 rfl rfl rfl rfl ?_
    rcases oite h with ⟨hc, h⟩ | ⟨hc, h⟩
    · refine zIF dd164_84 (kGeF hc) ?_
      refine zGo_s (pc' := 88) (st' := [.ref 1132]) dd164_87 rfl ?_
      refine mGF (e := 1133) dd164_88 rfl rfl rfl rfl rfl ?_
      refine zGo_s (pc' := 92) (st' := [.int x1, .ref 1133]) dd164_91 rfl ?_
      obtain ⟨hi, h⟩ := ochk h
      refine mIA dd164_92 rfl rfl hi ?_
      obtain ⟨v2, u1, hq, h⟩ := obnd h
      refine zCS1 (As := [.int (s.1 1133 (nx x1))]) (rest := []) (q' := q_165) dd164_93 rfl rfl rfl rfl rfl (f165_ok (d := d) (by omega)  hq) ?_
      rcases oite h with ⟨hc, h⟩ | ⟨hc, h⟩
      · refine zUF dd164_96 (kNeF hc) ?_
        refine zGo_s (pc' := 100) (st' := [.ref 1132]) dd164_99 rfl ?_
        refine mGF (e := 1133) dd164_100 rfl rfl rfl rfl rfl ?_
        refine zGo_s (pc' := 104) (st' := [.int x1, .ref 1133]) dd164_103 rfl ?_
        obtain ⟨hi, h⟩ := ochk h
        refine mIA dd164_104 rfl rfl hi ?_
        obtain ⟨v4, u3, hq, h⟩ := obnd h
        refine zCS1 (As := [.int (u1.1 1133 (nx x1))]) (rest := []) (q' := q_166) dd164_105 rfl rfl rfl rfl rfl (f166_ok (d := d) (by omega)  hq) ?_
        rcases oite h with ⟨hc, h⟩ | ⟨hc, h⟩
        · refine zUT dd164_108 rfl (kEqT hc) ?_
          exact f164_136_ok hd h
        · refine zUF dd164_108 (kEqF hc) ?_
          exact f164_111_ok hd ih h
      · refine zUT dd164_96 rfl (kNeT hc) ?_
        exact f164_111_ok hd ih h
    · refine zIT dd164_84 rfl (kGeT hc) ?_
      exact f164_136_ok hd h
def f164_41 (n : Nat) (x1 : Int32) (s : zσ) : Option zσ :=
    zlet (sI s 1132 4 x1) fun u1 =>
    if x1 = (u1.1 1132 1) then
    zlet (sI u1 1132 3 (0 : Int32)) fun u9 =>
    some u9
    else if zin? x1 4000 = true then
    zlet ((u1.1 1133 (nx x1))) fun v2 =>
    yb1 (f165 n v2 u1) fun v4 u3 =>
    if v4 = (0 : Int32) then
    yb1 (f166 n v2 u3) fun v6 u5 =>
    if v6 = (0 : Int32) then
    if (zidx 2 v2) < (0 : Int32) then
    f164_274 n x1 v2 (4 : Int32) u5
    else f164_274 n x1 v2 (3 : Int32) u5
    else zlet (sI u5 1132 7 (0 : Int32)) fun u7 =>
    f164_171 n n x1 u7
    else zlet (sJ u3 1132 6 (0 : Int64)) fun u8 =>
    f164_79 n n x1 u8
    else none
set_option maxRecDepth 20000 in
theorem f164_41_ok {n d : Nat} {x1 : Int32} {s : zσ} {s2 : zσ} (hd : 7 ≤ d) (h : f164_41 n x1 s = some s2) {w : zσ} {fz : Bool} {L : Nat} {xs : Nat → Int32} : zGo (zX fz L xs) d q_164 (41, [(0, .ref 1132), (1, .int x1)], [], zmk w s, 0, 0) (none, zmk w s2, 0, 0) := by
  obtain ⟨d, rfl⟩ : ∃ d0, d = d0 + 1 := ⟨d - 1, by omega⟩
  unfold f164_41 at h
  refine zGo_s (pc' := 42) (st' := [.ref 1132]) dd164_41 rfl ?_
  refine zGo_s (pc' := 43) (st' := [.int x1, .ref 1132]) dd164_42 rfl ?_
  obtain ⟨u1, e_u1, h⟩ := olet h
  refine mPI dd164_43 rfl rfl rfl rfl rfl rfl e_u1 ?_
  refine zGo_s (pc' := 47) (st' := [.int x1]) dd164_46 rfl ?_
  refine zGo_s (pc' := 48) (st' := [.ref 1132, .int x1]) dd164_47 rfl ?_
  refine mGI dd164_48 rfl rfl rfl rfl ?_
  rcases oite h with ⟨hc, h⟩ | ⟨hc, h⟩
  · refine zIF dd164_51 (kNeF hc) ?_
    refine zGo_s (pc' := 55) (st' := [.ref 1132]) dd164_54 rfl ?_
    refine zGo_s (pc' := 56) (st' := [.int (0 : Int32), .ref 1132]) dd164_55 rfl ?_
    obtain ⟨u9, e_u9, h⟩ := olet h
    refine mPI dd164_56 rfl rfl rfl rfl rfl rfl e_u9 ?_
    obtain rfl := ore0 h
    exact zGo_ret dd164_59 rfl rfl
  · refine zIT dd164_51 rfl (kNeT hc) ?_
    refine zGo_s (pc' := 61) (st' := [.ref 1132]) dd164_60 rfl ?_
    refine mGF (e := 1133) dd164_61 rfl rfl rfl rfl rfl ?_
    refine zGo_s (pc' := 65) (st' := [.int x1, .ref 1133]) dd164_64 rfl ?_
    obtain ⟨hi, h⟩ := ochk h
    refine mIA dd164_65 rfl rfl hi ?_
    obtain ⟨v2, e_v2, h⟩ := olet h
    refine zGo_is1 e_v2 dd164_66 (x' := (67, [(2, .int v2), (0, .ref 1132), (1, .int x1)], [], _, _, _)) rfl ?_
    refine zGo_s (pc' := 68) (st' := [.int v2]) dd164_67 rfl ?_
    obtain ⟨v4, u3, hq, h⟩ := obnd h
    refine zCS1 (As := [.int v2]) (rest := []) (q' := q_165) dd164_68 rfl rfl rfl rfl rfl (f165_ok (d := d) (by omega)  hq) ?_
    rcases oite h with ⟨hc, h⟩ | ⟨hc, h⟩
    · refine zUT dd164_71 rfl (kEqT hc) ?_
      refine zGo_s (pc' := 160) (st' := [.int v2]) dd164_159 rfl ?_
      obtain ⟨v6, u5, hq, h⟩ := obnd h
      refine zCS1 (As := [.int v2]) (rest := []) (q' := q_166) dd164_160 rfl rfl rfl rfl rfl (f166_ok (d := d) (by omega)  hq) ?_
      rcases oite h with ⟨hc, h⟩ | ⟨hc, h⟩
      · refine zUT dd164_163 rfl (kEqT hc) ?_
        refine zGo_s (pc' := 260) (st' := [.ref 1132]) dd164_259 rfl ?_
        refine zGo_s (pc' := 262) (st' := [.ref 2, .ref 1132]) dd164_260 rfl ?_
        refine zGo_s (pc' := 263) (st' := [.int v2, .ref 2, .ref 1132]) dd164_262 rfl ?_
        refine zCV1 (As := [.int v2]) (rest := [.ref 1132]) (b := 2) (q' := q_27) dd164_263 rfl rfl (zrcv_s (by decide)) rfl rfl rfl (zGo_dm (g_indexOf (d := 0) (k := 2) (by decide) _) (by omega)) ?_
        rcases oite h with ⟨hc, h⟩ | ⟨hc, h⟩
        · refine zUF dd164_266 (kGeF hc) ?_
          refine zGo_s (pc' := 270) (st' := [.int (4 : Int32), .ref 1132]) dd164_269 rfl ?_
          refine zGo_s (pc' := 274) (st' := [.int (4 : Int32), .ref 1132]) dd164_270 rfl ?_
          exact zGo_lv (lv := [(0, .ref 1132), (1, .int x1), (2, .int v2)]) ⟨by simp, by simp, by simp⟩ (f164_274_ok hd h)
        · refine zUT dd164_266 rfl (kGeT hc) ?_
          refine zGo_s (pc' := 274) (st' := [.int (3 : Int32), .ref 1132]) dd164_273 rfl ?_
          exact zGo_lv (lv := [(0, .ref 1132), (1, .int x1), (2, .int v2)]) ⟨by simp, by simp, by simp⟩ (f164_274_ok hd h)
      · refine zUF dd164_163 (kEqF hc) ?_
        refine zGo_s (pc' := 167) (st' := [.ref 1132]) dd164_166 rfl ?_
        refine zGo_s (pc' := 168) (st' := [.int (0 : Int32), .ref 1132]) dd164_167 rfl ?_
        obtain ⟨u7, e_u7, h⟩ := olet h
        refine mPI dd164_168 rfl rfl rfl rfl rfl rfl e_u7 ?_
        exact zGo_lv (lv := [(0, .ref 1132), (1, .int x1)]) ⟨by simp, by simp, by simp⟩ (f164_171_ok hd _ _ _ _ h)
    · refine zUF dd164_71 (kEqF hc) ?_
      refine zGo_s (pc' := 75) (st' := [.ref 1132]) dd164_74 rfl ?_
      refine zGo_s (pc' := 76) (st' := [.long (0 : Int64), .ref 1132]) dd164_75 rfl ?_
      obtain ⟨u8, e_u8, h⟩ := olet h
      refine mPJ dd164_76 rfl rfl rfl rfl rfl rfl e_u8 ?_
      exact zGo_lv (lv := [(0, .ref 1132), (1, .int x1)]) ⟨by simp, by simp, by simp⟩ (f164_79_ok hd _ _ _ _ h)
def f164_35 (n : Nat) (r5 : Int32 → zσ → Option zσ) (x1 : Int32) (s : zσ) : Option zσ :=
    r5 (x1 + (1 : Int32)) s
set_option maxRecDepth 20000 in
theorem f164_35_ok {n d : Nat} {r5 : Int32 → zσ → Option zσ} {x1 : Int32} {s : zσ} {s2 : zσ} (hd : 7 ≤ d) (hr5 : ∀ (x1 : Int32) (s : zσ) (s2 : zσ), r5 x1 s = some s2 → ∀ {w : zσ} {fz : Bool} {L : Nat} {xs : Nat → Int32}, zGo (zX fz L xs) d q_164 (5, [(0, .ref 1132), (1, .int x1)], [], zmk w s, 0, 0) (none, zmk w s2, 0, 0)) (h : f164_35 n r5 x1 s = some s2) {w : zσ} {fz : Bool} {L : Nat} {xs : Nat → Int32} : zGo (zX fz L xs) d q_164 (35, [(0, .ref 1132), (1, .int x1)], [], zmk w s, 0, 0) (none, zmk w s2, 0, 0) := by
  obtain ⟨d, rfl⟩ : ∃ d0, d = d0 + 1 := ⟨d - 1, by omega⟩
  unfold f164_35 at h
  refine zGo_s (pc' := 38) (st' := []) (lv' := [(1, .int (x1 + (1 : Int32))), (0, .ref 1132)]) dd164_35 rfl ?_
  refine zGo_s (pc' := 5) (st' := []) dd164_38 rfl ?_
  exact zGo_lv (lv := [(0, .ref 1132), (1, .int (x1 + (1 : Int32)))]) ⟨by simp, by simp, by simp⟩ (hr5 _ _ _ h)
def f164_5 (n : Nat) : Nat → Int32 → zσ → Option zσ
  | 0, _, _ => none
  | j + 1, x1, s =>
    if x1 < (s.1 1132 1) then
    if zin? x1 4000 = true then
    if (s.1 1133 (nx x1)) = (10 : Int32) then
    f164_35 n (f164_5 n j) x1 s
    else if zin? x1 4000 = true then
    if (s.1 1133 (nx x1)) = (32 : Int32) then
    f164_35 n (f164_5 n j) x1 s
    else f164_41 n x1 s
    else none
    else none
    else f164_41 n x1 s
set_option maxRecDepth 20000 in
theorem f164_5_ok {n d : Nat} (hd : 7 ≤ d) : ∀ (j : Nat) (x1 : Int32) (s : zσ) (s2 : zσ), f164_5 n j x1 s = some s2 → ∀ {w : zσ} {fz : Bool} {L : Nat} {xs : Nat → Int32}, zGo (zX fz L xs) d q_164 (5, [(0, .ref 1132), (1, .int x1)], [], zmk w s, 0, 0) (none, zmk w s2, 0, 0) := by
  obtain ⟨d, rfl⟩ : ∃ d0, d = d0 + 1 := ⟨d - 1, by omega⟩
  intro j
  induction j with
  | zero => intro x1 s s2 h; cases h
  | succ j ih =>
    intro x1 s s2 h w fz L xs
    rw [f164_5] at h
    refine zGo_s (pc' := 6) (st' := [.int x1]) dd164_5 rfl ?_
    refine zGo_s (pc' := 7) (st' := [.ref 1132, .int x1]) dd164_6 rfl ?_
    refine mGI dd164_7 rfl rfl rfl rfl ?_
    rcases oite h with ⟨hc, h⟩ | ⟨hc, h⟩
    · refine zIF dd164_10 (kGeF hc) ?_
      refine zGo_s (pc' := 14) (st' := [.ref 1132]) dd164_13 rfl ?_
      refine mGF (e := 1133) dd164_14 rfl rfl rfl rfl rfl ?_
      refine zGo_s (pc' := 18) (st' := [.int x1, .ref 1133]) dd164_17 rfl ?_
      obtain ⟨hi, h⟩ := ochk h
      refine mIA dd164_18 rfl rfl hi ?_
      refine zGo_s (pc' := 21) (st' := [.int (10 : Int32), .int (s.1 1133 (nx x1))]) dd164_19 rfl ?_
      rcases oite h with ⟨hc, h⟩ | ⟨hc, h⟩
      · refine zIT dd164_21 rfl (kEqT hc) ?_
        exact f164_35_ok hd ih h
      · refine zIF dd164_21 (kEqF hc) ?_
        refine zGo_s (pc' := 25) (st' := [.ref 1132]) dd164_24 rfl ?_
        refine mGF (e := 1133) dd164_25 rfl rfl rfl rfl rfl ?_
        refine zGo_s (pc' := 29) (st' := [.int x1, .ref 1133]) dd164_28 rfl ?_
        obtain ⟨hi, h⟩ := ochk h
        refine mIA dd164_29 rfl rfl hi ?_
        refine zGo_s (pc' := 32) (st' := [.int (32 : Int32), .int (s.1 1133 (nx x1))]) dd164_30 rfl ?_
        rcases oite h with ⟨hc, h⟩ | ⟨hc, h⟩
        · refine zIF dd164_32 (kNeF hc) ?_
          exact f164_35_ok hd ih h
        · refine zIT dd164_32 rfl (kNeT hc) ?_
          exact f164_41_ok hd h
    · refine zIT dd164_10 rfl (kGeT hc) ?_
      exact f164_41_ok hd h
def f164 (n : Nat) (s : zσ) : Option zσ :=
    zlet ((s.1 1132 5)) fun v1 =>
    f164_5 n n v1 s
set_option maxRecDepth 20000 in
theorem f164_ok {n d : Nat} {s : zσ} {s2 : zσ} (hd : 7 ≤ d) (h : f164 n s = some s2) {w : zσ} {fz : Bool} {L : Nat} {xs : Nat → Int32} : zGo (zX fz L xs) d q_164 (0, [(0, .ref 1132)], [], zmk w s, 0, 0) (none, zmk w s2, 0, 0) := by
  obtain ⟨d, rfl⟩ : ∃ d0, d = d0 + 1 := ⟨d - 1, by omega⟩
  unfold f164 at h
  refine zGo_s (pc' := 1) (st' := [.ref 1132]) dd164_0 rfl ?_
  refine mGI dd164_1 rfl rfl rfl rfl ?_
  obtain ⟨v1, e_v1, h⟩ := olet h
  refine zGo_is1 e_v1 dd164_4 (x' := (5, [(1, .int v1), (0, .ref 1132)], [], _, _, _)) rfl ?_
  exact zGo_lv (lv := [(0, .ref 1132), (1, .int v1)]) ⟨by simp, by simp, by simp⟩ (f164_5_ok hd _ _ _ _ h)
