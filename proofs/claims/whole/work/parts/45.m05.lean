/-! PH$Reader.read(LPH$Text;)I -/
theorem dd21_0 : decode cX4_read 0 = .ok (.aload_n 0, 1) := by decide +kernel
theorem dd21_1 : decode cX4_read 1 = .ok (.aload_n 1, 1) := by decide +kernel
theorem dd21_2 : decode cX4_read 2 = .ok (.putfield 23, 3) := by decide +kernel
theorem dd21_5 : decode cX4_read 5 = .ok (.aload_n 0, 1) := by decide +kernel
theorem dd21_6 : decode cX4_read 6 = .ok (.aload_n 1, 1) := by decide +kernel
theorem dd21_7 : decode cX4_read 7 = .ok (.getfield 58, 3) := by decide +kernel
theorem dd21_10 : decode cX4_read 10 = .ok (.putfield 27, 3) := by decide +kernel
theorem dd21_13 : decode cX4_read 13 = .ok (.aload_n 0, 1) := by decide +kernel
theorem dd21_14 : decode cX4_read 14 = .ok (.aload_n 1, 1) := by decide +kernel
theorem dd21_15 : decode cX4_read 15 = .ok (.getfield 61, 3) := by decide +kernel
theorem dd21_18 : decode cX4_read 18 = .ok (.putfield 31, 3) := by decide +kernel
theorem dd21_21 : decode cX4_read 21 = .ok (.aload_n 0, 1) := by decide +kernel
theorem dd21_22 : decode cX4_read 22 = .ok (.iconst 0, 1) := by decide +kernel
theorem dd21_23 : decode cX4_read 23 = .ok (.putfield 45, 3) := by decide +kernel
theorem dd21_26 : decode cX4_read 26 = .ok (.aload_n 0, 1) := by decide +kernel
theorem dd21_27 : decode cX4_read 27 = .ok (.iconst (-1), 1) := by decide +kernel
theorem dd21_28 : decode cX4_read 28 = .ok (.putfield 51, 3) := by decide +kernel
theorem dd21_31 : decode cX4_read 31 = .ok (.aload_n 1, 1) := by decide +kernel
theorem dd21_32 : decode cX4_read 32 = .ok (.invokevirtual 62, 3) := by decide +kernel
theorem dd21_35 : decode cX4_read 35 = .ok (.iconst 1, 1) := by decide +kernel
theorem dd21_36 : decode cX4_read 36 = .ok (.istore_n 2, 1) := by decide +kernel
theorem dd21_37 : decode cX4_read 37 = .ok (.iload_n 2, 1) := by decide +kernel
theorem dd21_38 : decode cX4_read 38 = .ok (.iconst 2, 1) := by decide +kernel
theorem dd21_39 : decode cX4_read 39 = .ok (.if_icmp .gt 139, 3) := by decide +kernel
theorem dd21_42 : decode cX4_read 42 = .ok (.aload_n 0, 1) := by decide +kernel
theorem dd21_43 : decode cX4_read 43 = .ok (.getfield 45, 3) := by decide +kernel
theorem dd21_46 : decode cX4_read 46 = .ok (.ifCond .ne 132, 3) := by decide +kernel
theorem dd21_49 : decode cX4_read 49 = .ok (.aload_n 0, 1) := by decide +kernel
theorem dd21_50 : decode cX4_read 50 = .ok (.iload_n 2, 1) := by decide +kernel
theorem dd21_51 : decode cX4_read 51 = .ok (.iconst 2, 1) := by decide +kernel
theorem dd21_52 : decode cX4_read 52 = .ok (.if_icmp .ne 7, 3) := by decide +kernel
theorem dd21_55 : decode cX4_read 55 = .ok (.iconst 1, 1) := by decide +kernel
theorem dd21_56 : decode cX4_read 56 = .ok (.goto 4, 3) := by decide +kernel
theorem dd21_59 : decode cX4_read 59 = .ok (.iconst 0, 1) := by decide +kernel
theorem dd21_60 : decode cX4_read 60 = .ok (.putfield 35, 3) := by decide +kernel
theorem dd21_63 : decode cX4_read 63 = .ok (.aload_n 0, 1) := by decide +kernel
theorem dd21_64 : decode cX4_read 64 = .ok (.invokevirtual 65, 3) := by decide +kernel
theorem dd21_67 : decode cX4_read 67 = .ok (.iconst 0, 1) := by decide +kernel
theorem dd21_68 : decode cX4_read 68 = .ok (.istore_n 3, 1) := by decide +kernel
theorem dd21_69 : decode cX4_read 69 = .ok (.iload_n 3, 1) := by decide +kernel
theorem dd21_70 : decode cX4_read 70 = .ok (.sipush 4000, 3) := by decide +kernel
theorem dd21_73 : decode cX4_read 73 = .ok (.if_icmp .ge 99, 3) := by decide +kernel
theorem dd21_76 : decode cX4_read 76 = .ok (.aload_n 0, 1) := by decide +kernel
theorem dd21_77 : decode cX4_read 77 = .ok (.getfield 54, 3) := by decide +kernel
theorem dd21_80 : decode cX4_read 80 = .ok (.getfield 68, 3) := by decide +kernel
theorem dd21_83 : decode cX4_read 83 = .ok (.iconst 3, 1) := by decide +kernel
theorem dd21_84 : decode cX4_read 84 = .ok (.if_icmp .eq 88, 3) := by decide +kernel
theorem dd21_87 : decode cX4_read 87 = .ok (.aload_n 0, 1) := by decide +kernel
theorem dd21_88 : decode cX4_read 88 = .ok (.getfield 54, 3) := by decide +kernel
theorem dd21_91 : decode cX4_read 91 = .ok (.getfield 68, 3) := by decide +kernel
theorem dd21_94 : decode cX4_read 94 = .ok (.iconst 4, 1) := by decide +kernel
theorem dd21_95 : decode cX4_read 95 = .ok (.if_icmp .eq 77, 3) := by decide +kernel
theorem dd21_98 : decode cX4_read 98 = .ok (.aload_n 0, 1) := by decide +kernel
theorem dd21_99 : decode cX4_read 99 = .ok (.getfield 54, 3) := by decide +kernel
theorem dd21_102 : decode cX4_read 102 = .ok (.getfield 68, 3) := by decide +kernel
theorem dd21_105 : decode cX4_read 105 = .ok (.sipush 128, 3) := by decide +kernel
theorem dd21_108 : decode cX4_read 108 = .ok (.isub, 1) := by decide +kernel
theorem dd21_109 : decode cX4_read 109 = .ok (.istore 4, 2) := by decide +kernel
theorem dd21_111 : decode cX4_read 111 = .ok (.iload 4, 2) := by decide +kernel
theorem dd21_113 : decode cX4_read 113 = .ok (.ifCond .lt 10, 3) := by decide +kernel
theorem dd21_116 : decode cX4_read 116 = .ok (.iload 4, 2) := by decide +kernel
theorem dd21_118 : decode cX4_read 118 = .ok (.bipush 8, 2) := by decide +kernel
theorem dd21_120 : decode cX4_read 120 = .ok (.if_icmp .le 12, 3) := by decide +kernel
theorem dd21_123 : decode cX4_read 123 = .ok (.aload_n 0, 1) := by decide +kernel
theorem dd21_124 : decode cX4_read 124 = .ok (.iconst 2, 1) := by decide +kernel
theorem dd21_125 : decode cX4_read 125 = .ok (.invokevirtual 73, 3) := by decide +kernel
theorem dd21_128 : decode cX4_read 128 = .ok (.pop, 1) := by decide +kernel
theorem dd21_129 : decode cX4_read 129 = .ok (.goto 37, 3) := by decide +kernel
theorem dd21_132 : decode cX4_read 132 = .ok (.iload 4, 2) := by decide +kernel
theorem dd21_134 : decode cX4_read 134 = .ok (.bipush 7, 2) := by decide +kernel
theorem dd21_136 : decode cX4_read 136 = .ok (.if_icmp .ne 10, 3) := by decide +kernel
theorem dd21_139 : decode cX4_read 139 = .ok (.aload_n 0, 1) := by decide +kernel
theorem dd21_140 : decode cX4_read 140 = .ok (.invokevirtual 77, 3) := by decide +kernel
theorem dd21_143 : decode cX4_read 143 = .ok (.goto 23, 3) := by decide +kernel
theorem dd21_146 : decode cX4_read 146 = .ok (.iload 4, 2) := by decide +kernel
theorem dd21_148 : decode cX4_read 148 = .ok (.bipush 8, 2) := by decide +kernel
theorem dd21_150 : decode cX4_read 150 = .ok (.if_icmp .ne 10, 3) := by decide +kernel
theorem dd21_153 : decode cX4_read 153 = .ok (.aload_n 0, 1) := by decide +kernel
theorem dd21_154 : decode cX4_read 154 = .ok (.invokevirtual 80, 3) := by decide +kernel
theorem dd21_157 : decode cX4_read 157 = .ok (.goto 9, 3) := by decide +kernel
theorem dd21_160 : decode cX4_read 160 = .ok (.aload_n 0, 1) := by decide +kernel
theorem dd21_161 : decode cX4_read 161 = .ok (.iload 4, 2) := by decide +kernel
theorem dd21_163 : decode cX4_read 163 = .ok (.invokevirtual 83, 3) := by decide +kernel
theorem dd21_166 : decode cX4_read 166 = .ok (.iinc 3 1, 3) := by decide +kernel
theorem dd21_169 : decode cX4_read 169 = .ok (.goto (-100), 3) := by decide +kernel
theorem dd21_172 : decode cX4_read 172 = .ok (.iinc 2 1, 3) := by decide +kernel
theorem dd21_175 : decode cX4_read 175 = .ok (.goto (-138), 3) := by decide +kernel
theorem dd21_178 : decode cX4_read 178 = .ok (.aload_n 0, 1) := by decide +kernel
theorem dd21_179 : decode cX4_read 179 = .ok (.getfield 45, 3) := by decide +kernel
theorem dd21_182 : decode cX4_read 182 = .ok (.ifCond .ne 25, 3) := by decide +kernel
theorem dd21_185 : decode cX4_read 185 = .ok (.aload_n 0, 1) := by decide +kernel
theorem dd21_186 : decode cX4_read 186 = .ok (.getfield 51, 3) := by decide +kernel
theorem dd21_189 : decode cX4_read 189 = .ok (.iconst (-1), 1) := by decide +kernel
theorem dd21_190 : decode cX4_read 190 = .ok (.if_icmp .eq 17, 3) := by decide +kernel
theorem dd21_193 : decode cX4_read 193 = .ok (.aload_n 0, 1) := by decide +kernel
theorem dd21_194 : decode cX4_read 194 = .ok (.bipush 7, 2) := by decide +kernel
theorem dd21_196 : decode cX4_read 196 = .ok (.putfield 45, 3) := by decide +kernel
theorem dd21_199 : decode cX4_read 199 = .ok (.aload_n 0, 1) := by decide +kernel
theorem dd21_200 : decode cX4_read 200 = .ok (.aload_n 0, 1) := by decide +kernel
theorem dd21_201 : decode cX4_read 201 = .ok (.getfield 51, 3) := by decide +kernel
theorem dd21_204 : decode cX4_read 204 = .ok (.putfield 48, 3) := by decide +kernel
theorem dd21_207 : decode cX4_read 207 = .ok (.aload_n 0, 1) := by decide +kernel
theorem dd21_208 : decode cX4_read 208 = .ok (.getfield 45, 3) := by decide +kernel
theorem dd21_211 : decode cX4_read 211 = .ok (.ireturn, 1) := by decide +kernel
def f21_207 (n : Nat) (s : zσ) : Option (Int32 × zσ) :=
    some ((s.1 1004 10), s)
set_option maxRecDepth 20000 in
theorem f21_207_ok {n d : Nat} {s : zσ} {v : Int32} {s2 : zσ} (hd : 224 ≤ d) (h : f21_207 n s = some (v, s2)) {w : zσ} {fz : Bool} {L : Nat} {xs : Nat → Int32} : zGo (zX fz L xs) d q_21 (207, [(0, .ref 1004)], [], zmk s w, 0, 0) (some (.int v), zmk s2 w, 0, 0) := by
  obtain ⟨d, rfl⟩ : ∃ d0, d = d0 + 1 := ⟨d - 1, by omega⟩
  unfold f21_207 at h
  refine zGo_s (pc' := 208) (st' := [.ref 1004]) dd21_207 rfl ?_
  refine cGI dd21_208 rfl rfl rfl rfl ?_
  obtain ⟨rfl, rfl⟩ := oret h
  exact zGo_ret dd21_211 rfl rfl
def f21_178 (n : Nat) (s : zσ) : Option (Int32 × zσ) :=
    if (s.1 1004 10) = (0 : Int32) then
    if (s.1 1004 12) = (-1 : Int32) then
    f21_207 n s
    else zlet (sI s 1004 10 (7 : Int32)) fun u1 =>
    zlet (sI u1 1004 11 (u1.1 1004 12)) fun u2 =>
    f21_207 n u2
    else f21_207 n s
set_option maxRecDepth 20000 in
theorem f21_178_ok {n d : Nat} {s : zσ} {v : Int32} {s2 : zσ} (hd : 224 ≤ d) (h : f21_178 n s = some (v, s2)) {w : zσ} {fz : Bool} {L : Nat} {xs : Nat → Int32} : zGo (zX fz L xs) d q_21 (178, [(0, .ref 1004)], [], zmk s w, 0, 0) (some (.int v), zmk s2 w, 0, 0) := by
  obtain ⟨d, rfl⟩ : ∃ d0, d = d0 + 1 := ⟨d - 1, by omega⟩
  unfold f21_178 at h
  refine zGo_s (pc' := 179) (st' := [.ref 1004]) dd21_178 rfl ?_
  refine cGI dd21_179 rfl rfl rfl rfl ?_
  rcases oite h with ⟨hc, h⟩ | ⟨hc, h⟩
  · refine zUF dd21_182 (kNeF hc) ?_
    refine zGo_s (pc' := 186) (st' := [.ref 1004]) dd21_185 rfl ?_
    refine cGI dd21_186 rfl rfl rfl rfl ?_
    refine zGo_s (pc' := 190) (st' := [.int (-1 : Int32), .int (s.1 1004 12)]) dd21_189 rfl ?_
    rcases oite h with ⟨hc, h⟩ | ⟨hc, h⟩
    · refine zIT dd21_190 rfl (kEqT hc) ?_
      exact f21_207_ok hd h
    · refine zIF dd21_190 (kEqF hc) ?_
      refine zGo_s (pc' := 194) (st' := [.ref 1004]) dd21_193 rfl ?_
      refine zGo_s (pc' := 196) (st' := [.int (7 : Int32), .ref 1004]) dd21_194 rfl ?_
      obtain ⟨u1, e_u1, h⟩ := olet h
      refine cPI dd21_196 rfl rfl rfl rfl rfl rfl e_u1 ?_
      refine zGo_s (pc' := 200) (st' := [.ref 1004]) dd21_199 rfl ?_
      refine zGo_s (pc' := 201) (st' := [.ref 1004, .ref 1004]) dd21_200 rfl ?_
      refine cGI dd21_201 rfl rfl rfl rfl ?_
      obtain ⟨u2, e_u2, h⟩ := olet h
      refine cPI dd21_204 rfl rfl rfl rfl rfl rfl e_u2 ?_
      exact f21_207_ok hd h
  · refine zUT dd21_182 rfl (kNeT hc) ?_
    exact f21_207_ok hd h
def f21_172 (n : Nat) (r37 : Int32 → zσ → Option (Int32 × zσ)) (x2 : Int32) (s : zσ) : Option (Int32 × zσ) :=
    r37 (x2 + (1 : Int32)) s
set_option maxRecDepth 20000 in
theorem f21_172_ok {n d : Nat} {r37 : Int32 → zσ → Option (Int32 × zσ)} {x2 : Int32} {s : zσ} {v : Int32} {s2 : zσ} (hd : 224 ≤ d) (hr37 : ∀ (x2 : Int32) (s : zσ) (v : Int32) (s2 : zσ), r37 x2 s = some (v, s2) → ∀ {w : zσ} {fz : Bool} {L : Nat} {xs : Nat → Int32}, zGo (zX fz L xs) d q_21 (37, [(0, .ref 1004), (2, .int x2)], [], zmk s w, 0, 0) (some (.int v), zmk s2 w, 0, 0)) (h : f21_172 n r37 x2 s = some (v, s2)) {w : zσ} {fz : Bool} {L : Nat} {xs : Nat → Int32} : zGo (zX fz L xs) d q_21 (172, [(0, .ref 1004), (2, .int x2)], [], zmk s w, 0, 0) (some (.int v), zmk s2 w, 0, 0) := by
  obtain ⟨d, rfl⟩ : ∃ d0, d = d0 + 1 := ⟨d - 1, by omega⟩
  unfold f21_172 at h
  refine zGo_s (pc' := 175) (st' := []) (lv' := [(2, .int (x2 + (1 : Int32))), (0, .ref 1004)]) dd21_172 rfl ?_
  refine zGo_s (pc' := 37) (st' := []) dd21_175 rfl ?_
  exact zGo_lv (lv := [(0, .ref 1004), (2, .int (x2 + (1 : Int32)))]) ⟨by simp, by simp, by simp⟩ (hr37 _ _ _ _ h)
def f21_166 (n : Nat) (r37 : Int32 → zσ → Option (Int32 × zσ)) (r69 : Int32 → Int32 → zσ → Option (Int32 × zσ)) (x2 : Int32) (x3 : Int32) (s : zσ) : Option (Int32 × zσ) :=
    r69 x2 (x3 + (1 : Int32)) s
set_option maxRecDepth 20000 in
theorem f21_166_ok {n d : Nat} {r37 : Int32 → zσ → Option (Int32 × zσ)} {r69 : Int32 → Int32 → zσ → Option (Int32 × zσ)} {x2 : Int32} {x3 : Int32} {s : zσ} {v : Int32} {s2 : zσ} (hd : 224 ≤ d) (hr37 : ∀ (x2 : Int32) (s : zσ) (v : Int32) (s2 : zσ), r37 x2 s = some (v, s2) → ∀ {w : zσ} {fz : Bool} {L : Nat} {xs : Nat → Int32}, zGo (zX fz L xs) d q_21 (37, [(0, .ref 1004), (2, .int x2)], [], zmk s w, 0, 0) (some (.int v), zmk s2 w, 0, 0)) (hr69 : ∀ (x2 : Int32) (x3 : Int32) (s : zσ) (v : Int32) (s2 : zσ), r69 x2 x3 s = some (v, s2) → ∀ {w : zσ} {fz : Bool} {L : Nat} {xs : Nat → Int32}, zGo (zX fz L xs) d q_21 (69, [(0, .ref 1004), (2, .int x2), (3, .int x3)], [], zmk s w, 0, 0) (some (.int v), zmk s2 w, 0, 0)) (h : f21_166 n r37 r69 x2 x3 s = some (v, s2)) {w : zσ} {fz : Bool} {L : Nat} {xs : Nat → Int32} : zGo (zX fz L xs) d q_21 (166, [(0, .ref 1004), (2, .int x2), (3, .int x3)], [], zmk s w, 0, 0) (some (.int v), zmk s2 w, 0, 0) := by
  obtain ⟨d, rfl⟩ : ∃ d0, d = d0 + 1 := ⟨d - 1, by omega⟩
  unfold f21_166 at h
  refine zGo_s (pc' := 169) (st' := []) (lv' := [(3, .int (x3 + (1 : Int32))), (0, .ref 1004), (2, .int x2)]) dd21_166 rfl ?_
  refine zGo_s (pc' := 69) (st' := []) dd21_169 rfl ?_
  exact zGo_lv (lv := [(0, .ref 1004), (2, .int x2), (3, .int (x3 + (1 : Int32)))]) ⟨by simp, by simp, by simp⟩ (hr69 _ _ _ _ _ h)
def f21_123 (n : Nat) (r37 : Int32 → zσ → Option (Int32 × zσ)) (r69 : Int32 → Int32 → zσ → Option (Int32 × zσ)) (x2 : Int32) (x3 : Int32) (s : zσ) : Option (Int32 × zσ) :=
    yb1 (f32 n (2 : Int32) s) fun v2 u1 =>
    f21_166 n r37 r69 x2 x3 u1
set_option maxRecDepth 20000 in
theorem f21_123_ok {n d : Nat} {r37 : Int32 → zσ → Option (Int32 × zσ)} {r69 : Int32 → Int32 → zσ → Option (Int32 × zσ)} {x2 : Int32} {x3 : Int32} {s : zσ} {v : Int32} {s2 : zσ} (hd : 224 ≤ d) (hr37 : ∀ (x2 : Int32) (s : zσ) (v : Int32) (s2 : zσ), r37 x2 s = some (v, s2) → ∀ {w : zσ} {fz : Bool} {L : Nat} {xs : Nat → Int32}, zGo (zX fz L xs) d q_21 (37, [(0, .ref 1004), (2, .int x2)], [], zmk s w, 0, 0) (some (.int v), zmk s2 w, 0, 0)) (hr69 : ∀ (x2 : Int32) (x3 : Int32) (s : zσ) (v : Int32) (s2 : zσ), r69 x2 x3 s = some (v, s2) → ∀ {w : zσ} {fz : Bool} {L : Nat} {xs : Nat → Int32}, zGo (zX fz L xs) d q_21 (69, [(0, .ref 1004), (2, .int x2), (3, .int x3)], [], zmk s w, 0, 0) (some (.int v), zmk s2 w, 0, 0)) (h : f21_123 n r37 r69 x2 x3 s = some (v, s2)) {w : zσ} {fz : Bool} {L : Nat} {xs : Nat → Int32} : zGo (zX fz L xs) d q_21 (123, [(0, .ref 1004), (2, .int x2), (3, .int x3)], [], zmk s w, 0, 0) (some (.int v), zmk s2 w, 0, 0) := by
  obtain ⟨d, rfl⟩ : ∃ d0, d = d0 + 1 := ⟨d - 1, by omega⟩
  unfold f21_123 at h
  refine zGo_s (pc' := 124) (st' := [.ref 1004]) dd21_123 rfl ?_
  refine zGo_s (pc' := 125) (st' := [.int (2 : Int32), .ref 1004]) dd21_124 rfl ?_
  obtain ⟨v2, u1, hq, h⟩ := obnd h
  refine zCV1 (As := [.int (2 : Int32)]) (rest := []) (b := 1004) (q' := q_32) dd21_125 rfl rfl (rcv_c rfl rfl (by decide)) rfl rfl rfl (f32_ok (d := d) (by omega)  hq) ?_
  refine zGo_s (pc' := 129) (st' := []) dd21_128 rfl ?_
  refine zGo_s (pc' := 166) (st' := []) dd21_129 rfl ?_
  exact f21_166_ok hd hr37 hr69 h
def f21_69 (n : Nat) (r37 : Int32 → zσ → Option (Int32 × zσ)) : Nat → Int32 → Int32 → zσ → Option (Int32 × zσ)
  | 0, _, _, _ => none
  | j + 1, x2, x3, s =>
    if x3 < (4000 : Int32) then
    if (s.1 1001 4) = (3 : Int32) then
    f21_172 n r37 x2 s
    else if (s.1 1001 4) = (4 : Int32) then
    f21_172 n r37 x2 s
    else zlet (((s.1 1001 4) - (128 : Int32))) fun v1 =>
    if v1 < (0 : Int32) then
    f21_123 n r37 (f21_69 n r37 j) x2 x3 s
    else if (8 : Int32) < v1 then
    f21_123 n r37 (f21_69 n r37 j) x2 x3 s
    else if v1 = (7 : Int32) then
    yb0 (f33 n s) fun u4 =>
    f21_166 n r37 (f21_69 n r37 j) x2 x3 u4
    else if v1 = (8 : Int32) then
    yb0 (f66 n s) fun u3 =>
    f21_166 n r37 (f21_69 n r37 j) x2 x3 u3
    else yb0 (f68 n v1 s) fun u2 =>
    f21_166 n r37 (f21_69 n r37 j) x2 x3 u2
    else f21_172 n r37 x2 s
set_option maxRecDepth 20000 in
theorem f21_69_ok {n d : Nat} {r37 : Int32 → zσ → Option (Int32 × zσ)} (hd : 224 ≤ d) (hr37 : ∀ (x2 : Int32) (s : zσ) (v : Int32) (s2 : zσ), r37 x2 s = some (v, s2) → ∀ {w : zσ} {fz : Bool} {L : Nat} {xs : Nat → Int32}, zGo (zX fz L xs) d q_21 (37, [(0, .ref 1004), (2, .int x2)], [], zmk s w, 0, 0) (some (.int v), zmk s2 w, 0, 0)) : ∀ (j : Nat) (x2 : Int32) (x3 : Int32) (s : zσ) (v : Int32) (s2 : zσ), f21_69 n r37 j x2 x3 s = some (v, s2) → ∀ {w : zσ} {fz : Bool} {L : Nat} {xs : Nat → Int32}, zGo (zX fz L xs) d q_21 (69, [(0, .ref 1004), (2, .int x2), (3, .int x3)], [], zmk s w, 0, 0) (some (.int v), zmk s2 w, 0, 0) := by
  obtain ⟨d, rfl⟩ : ∃ d0, d = d0 + 1 := ⟨d - 1, by omega⟩
  intro j
  induction j with
  | zero => intro x2 x3 s v s2 h; cases h
  | succ j ih =>
    intro x2 x3 s v s2 h w fz L xs
    rw [f21_69] at h
    refine zGo_s (pc' := 70) (st' := [.int x3]) dd21_69 rfl ?_
    refine zGo_s (pc' := 73) (st' := [.int (4000 : Int32), .int x3]) dd21_70 rfl ?_
    rcases oite h with ⟨hc, h⟩ | ⟨hc, h⟩
    · refine zIF dd21_73 (kGeF hc) ?_
      refine zGo_s (pc' := 77) (st' := [.ref 1004]) dd21_76 rfl ?_
      refine cGF (e := 1001) dd21_77 rfl rfl rfl rfl rfl ?_
      refine cGI dd21_80 rfl rfl rfl rfl ?_
      refine zGo_s (pc' := 84) (st' := [.int (3 : Int32), .int (s.1 1001 4)]) dd21_83 rfl ?_
      rcases oite h with ⟨hc, h⟩ | ⟨hc, h⟩
      · refine zIT dd21_84 rfl (kEqT hc) ?_
        exact zGo_lv (lv := [(0, .ref 1004), (2, .int x2)]) ⟨by simp, by simp, by simp⟩ (f21_172_ok hd hr37 h)
      · refine zIF dd21_84 (kEqF hc) ?_
        refine zGo_s (pc' := 88) (st' := [.ref 1004]) dd21_87 rfl ?_
        refine cGF (e := 1001) dd21_88 rfl rfl rfl rfl rfl ?_
        refine cGI dd21_91 rfl rfl rfl rfl ?_
        refine zGo_s (pc' := 95) (st' := [.int (4 : Int32), .int (s.1 1001 4)]) dd21_94 rfl ?_
        rcases oite h with ⟨hc, h⟩ | ⟨hc, h⟩
        · refine zIT dd21_95 rfl (kEqT hc) ?_
          exact zGo_lv (lv := [(0, .ref 1004), (2, .int x2)]) ⟨by simp, by simp, by simp⟩ (f21_172_ok hd hr37 h)
        · refine zIF dd21_95 (kEqF hc) ?_
          refine zGo_s (pc' := 99) (st' := [.ref 1004]) dd21_98 rfl ?_
          refine cGF (e := 1001) dd21_99 rfl rfl rfl rfl rfl ?_
          refine cGI dd21_102 rfl rfl rfl rfl ?_
          refine zGo_s (pc' := 108) (st' := [.int (128 : Int32), .int (s.1 1001 4)]) dd21_105 rfl ?_
          refine zGo_s (pc' := 109) (st' := [.int ((s.1 1001 4) - (128 : Int32))]) dd21_108 rfl ?_
          obtain ⟨v1, e_v1, h⟩ := olet h
          refine zGo_is1 e_v1 dd21_109 (x' := (111, [(4, .int v1), (0, .ref 1004), (2, .int x2), (3, .int x3)], [], _, _, _)) rfl ?_
          refine zGo_s (pc' := 113) (st' := [.int v1]) dd21_111 rfl ?_
          rcases oite h with ⟨hc, h⟩ | ⟨hc, h⟩
          · refine zUT dd21_113 rfl (kLtT hc) ?_
            exact zGo_lv (lv := [(0, .ref 1004), (2, .int x2), (3, .int x3)]) ⟨by simp, by simp, by simp⟩ (f21_123_ok hd hr37 ih h)
          · refine zUF dd21_113 (kLtF hc) ?_
            refine zGo_s (pc' := 118) (st' := [.int v1]) dd21_116 rfl ?_
            refine zGo_s (pc' := 120) (st' := [.int (8 : Int32), .int v1]) dd21_118 rfl ?_
            rcases oite h with ⟨hc, h⟩ | ⟨hc, h⟩
            · refine zIF dd21_120 (kLeF hc) ?_
              exact zGo_lv (lv := [(0, .ref 1004), (2, .int x2), (3, .int x3)]) ⟨by simp, by simp, by simp⟩ (f21_123_ok hd hr37 ih h)
            · refine zIT dd21_120 rfl (kLeT hc) ?_
              refine zGo_s (pc' := 134) (st' := [.int v1]) dd21_132 rfl ?_
              refine zGo_s (pc' := 136) (st' := [.int (7 : Int32), .int v1]) dd21_134 rfl ?_
              rcases oite h with ⟨hc, h⟩ | ⟨hc, h⟩
              · refine zIF dd21_136 (kNeF hc) ?_
                refine zGo_s (pc' := 140) (st' := [.ref 1004]) dd21_139 rfl ?_
                obtain ⟨u4, hq, h⟩ := obn0 h
                refine zCV0 (As := []) (rest := []) (b := 1004) (q' := q_33) dd21_140 rfl rfl (rcv_c rfl rfl (by decide)) rfl rfl rfl (f33_ok (d := d) (by omega)  hq) ?_
                refine zGo_s (pc' := 166) (st' := []) dd21_143 rfl ?_
                exact zGo_lv (lv := [(0, .ref 1004), (2, .int x2), (3, .int x3)]) ⟨by simp, by simp, by simp⟩ (f21_166_ok hd hr37 ih h)
              · refine zIT dd21_136 rfl (kNeT hc) ?_
                refine zGo_s (pc' := 148) (st' := [.int v1]) dd21_146 rfl ?_
                refine zGo_s (pc' := 150) (st' := [.int (8 : Int32), .int v1]) dd21_148 rfl ?_
                rcases oite h with ⟨hc, h⟩ | ⟨hc, h⟩
                · refine zIF dd21_150 (kNeF hc) ?_
                  refine zGo_s (pc' := 154) (st' := [.ref 1004]) dd21_153 rfl ?_
                  obtain ⟨u3, hq, h⟩ := obn0 h
                  refine zCV0 (As := []) (rest := []) (b := 1004) (q' := q_66) dd21_154 rfl rfl (rcv_c rfl rfl (by decide)) rfl rfl rfl (f66_ok (d := d) (by omega)  hq) ?_
                  refine zGo_s (pc' := 166) (st' := []) dd21_157 rfl ?_
                  exact zGo_lv (lv := [(0, .ref 1004), (2, .int x2), (3, .int x3)]) ⟨by simp, by simp, by simp⟩ (f21_166_ok hd hr37 ih h)
                · refine zIT dd21_150 rfl (kNeT hc) ?_
                  refine zGo_s (pc' := 161) (st' := [.ref 1004]) dd21_160 rfl ?_
                  refine zGo_s (pc' := 163) (st' := [.int v1, .ref 1004]) dd21_161 rfl ?_
                  obtain ⟨u2, hq, h⟩ := obn0 h
                  refine zCV0 (As := [.int v1]) (rest := []) (b := 1004) (q' := q_68) dd21_163 rfl rfl (rcv_c rfl rfl (by decide)) rfl rfl rfl (f68_ok (d := d) (by omega)  hq) ?_
                  exact zGo_lv (lv := [(0, .ref 1004), (2, .int x2), (3, .int x3)]) ⟨by simp, by simp, by simp⟩ (f21_166_ok hd hr37 ih h)
    · refine zIT dd21_73 rfl (kGeT hc) ?_
      exact zGo_lv (lv := [(0, .ref 1004), (2, .int x2)]) ⟨by simp, by simp, by simp⟩ (f21_172_ok hd hr37 h)
def f21_60 (n : Nat) (r37 : Int32 → zσ → Option (Int32 × zσ)) (x2 : Int32) (y0 : Int32) (s : zσ) : Option (Int32 × zσ) :=
    if zbo y0 = true then
    zlet (sI s 1004 7 y0) fun u1 =>
    yb0 (f23 n u1) fun u2 =>
    f21_69 n r37 n x2 (0 : Int32) u2
    else none
set_option maxRecDepth 20000 in
theorem f21_60_ok {n d : Nat} {r37 : Int32 → zσ → Option (Int32 × zσ)} {x2 : Int32} {y0 : Int32} {s : zσ} {v : Int32} {s2 : zσ} (hd : 224 ≤ d) (hr37 : ∀ (x2 : Int32) (s : zσ) (v : Int32) (s2 : zσ), r37 x2 s = some (v, s2) → ∀ {w : zσ} {fz : Bool} {L : Nat} {xs : Nat → Int32}, zGo (zX fz L xs) d q_21 (37, [(0, .ref 1004), (2, .int x2)], [], zmk s w, 0, 0) (some (.int v), zmk s2 w, 0, 0)) (h : f21_60 n r37 x2 y0 s = some (v, s2)) {w : zσ} {fz : Bool} {L : Nat} {xs : Nat → Int32} : zGo (zX fz L xs) d q_21 (60, [(0, .ref 1004), (2, .int x2)], [.int y0, .ref 1004], zmk s w, 0, 0) (some (.int v), zmk s2 w, 0, 0) := by
  obtain ⟨d, rfl⟩ : ∃ d0, d = d0 + 1 := ⟨d - 1, by omega⟩
  unfold f21_60 at h
  obtain ⟨hzu1, h⟩ := ochk h
  obtain ⟨u1, e_u1, h⟩ := olet h
  refine cPI dd21_60 rfl rfl rfl rfl hzu1 rfl e_u1 ?_
  refine zGo_s (pc' := 64) (st' := [.ref 1004]) dd21_63 rfl ?_
  obtain ⟨u2, hq, h⟩ := obn0 h
  refine zCV0 (As := []) (rest := []) (b := 1004) (q' := q_23) dd21_64 rfl rfl (rcv_c rfl rfl (by decide)) rfl rfl rfl (f23_ok (d := d) (by omega)  hq) ?_
  refine zGo_s (pc' := 68) (st' := [.int (0 : Int32)]) dd21_67 rfl ?_
  refine zGo_s (pc' := 69) (st' := []) (lv' := [(3, .int (0 : Int32)), (0, .ref 1004), (2, .int x2)]) dd21_68 rfl ?_
  exact zGo_lv (lv := [(0, .ref 1004), (2, .int x2), (3, .int (0 : Int32))]) ⟨by simp, by simp, by simp⟩ (f21_69_ok hd hr37 _ _ _ _ _ _ h)
def f21_37 (n : Nat) : Nat → Int32 → zσ → Option (Int32 × zσ)
  | 0, _, _ => none
  | j + 1, x2, s =>
    if (2 : Int32) < x2 then
    f21_178 n s
    else if (s.1 1004 10) = (0 : Int32) then
    if x2 = (2 : Int32) then
    f21_60 n (f21_37 n j) x2 (1 : Int32) s
    else f21_60 n (f21_37 n j) x2 (0 : Int32) s
    else f21_178 n s
set_option maxRecDepth 20000 in
theorem f21_37_ok {n d : Nat} (hd : 224 ≤ d) : ∀ (j : Nat) (x2 : Int32) (s : zσ) (v : Int32) (s2 : zσ), f21_37 n j x2 s = some (v, s2) → ∀ {w : zσ} {fz : Bool} {L : Nat} {xs : Nat → Int32}, zGo (zX fz L xs) d q_21 (37, [(0, .ref 1004), (2, .int x2)], [], zmk s w, 0, 0) (some (.int v), zmk s2 w, 0, 0) := by
  obtain ⟨d, rfl⟩ : ∃ d0, d = d0 + 1 := ⟨d - 1, by omega⟩
  intro j
  induction j with
  | zero => intro x2 s v s2 h; cases h
  | succ j ih =>
    intro x2 s v s2 h w fz L xs
    rw [f21_37] at h
    refine zGo_s (pc' := 38) (st' := [.int x2]) dd21_37 rfl ?_
    refine zGo_s (pc' := 39) (st' := [.int (2 : Int32), .int x2]) dd21_38 rfl ?_
    rcases oite h with ⟨hc, h⟩ | ⟨hc, h⟩
    · refine zIT dd21_39 rfl (kGtT hc) ?_
      exact zGo_lv (lv := [(0, .ref 1004)]) ⟨by simp, by simp, by simp⟩ (f21_178_ok hd h)
    · refine zIF dd21_39 (kGtF hc) ?_
      refine zGo_s (pc' := 43) (st' := [.ref 1004]) dd21_42 rfl ?_
      refine cGI dd21_43 rfl rfl rfl rfl ?_
      rcases oite h with ⟨hc, h⟩ | ⟨hc, h⟩
      · refine zUF dd21_46 (kNeF hc) ?_
        refine zGo_s (pc' := 50) (st' := [.ref 1004]) dd21_49 rfl ?_
        refine zGo_s (pc' := 51) (st' := [.int x2, .ref 1004]) dd21_50 rfl ?_
        refine zGo_s (pc' := 52) (st' := [.int (2 : Int32), .int x2, .ref 1004]) dd21_51 rfl ?_
        rcases oite h with ⟨hc, h⟩ | ⟨hc, h⟩
        · refine zIF dd21_52 (kNeF hc) ?_
          refine zGo_s (pc' := 56) (st' := [.int (1 : Int32), .ref 1004]) dd21_55 rfl ?_
          refine zGo_s (pc' := 60) (st' := [.int (1 : Int32), .ref 1004]) dd21_56 rfl ?_
          exact f21_60_ok hd ih h
        · refine zIT dd21_52 rfl (kNeT hc) ?_
          refine zGo_s (pc' := 60) (st' := [.int (0 : Int32), .ref 1004]) dd21_59 rfl ?_
          exact f21_60_ok hd ih h
      · refine zUT dd21_46 rfl (kNeT hc) ?_
        exact zGo_lv (lv := [(0, .ref 1004)]) ⟨by simp, by simp, by simp⟩ (f21_178_ok hd h)
def f21 (n : Nat) (x1 : Nat) (s : zσ) : Option (Int32 × zσ) :=
    zlet (sR s 1004 4 (some x1)) fun u1 =>
    zlet (sR u1 1004 5 (some (x1 + 19))) fun u2 =>
    zlet (sR u2 1004 6 (some (x1 + 29))) fun u3 =>
    zlet (sI u3 1004 10 (0 : Int32)) fun u4 =>
    zlet (sI u4 1004 12 (-1 : Int32)) fun u5 =>
    yb0 (f286 n x1 u5) fun u6 =>
    f21_37 n n (1 : Int32) u6
set_option maxRecDepth 20000 in
theorem f21_ok {n d : Nat} {x1 : Nat} {s : zσ} {v : Int32} {s2 : zσ} (hd : 224 ≤ d) (hx1 : zck 9 x1 = true) (h : f21 n x1 s = some (v, s2)) {w : zσ} {fz : Bool} {L : Nat} {xs : Nat → Int32} : zGo (zX fz L xs) d q_21 (0, [(0, .ref 1004), (1, .ref x1)], [], zmk s w, 0, 0) (some (.int v), zmk s2 w, 0, 0) := by
  obtain ⟨d, rfl⟩ : ∃ d0, d = d0 + 1 := ⟨d - 1, by omega⟩
  unfold f21 at h
  refine zGo_s (pc' := 1) (st' := [.ref 1004]) dd21_0 rfl ?_
  refine zGo_s (pc' := 2) (st' := [.ref x1, .ref 1004]) dd21_1 rfl ?_
  obtain ⟨u1, e_u1, h⟩ := olet h
  refine cPR dd21_2 rfl rfl rfl rfl rfl rfl e_u1 ?_
  refine zGo_s (pc' := 6) (st' := [.ref 1004]) dd21_5 rfl ?_
  refine zGo_s (pc' := 7) (st' := [.ref x1, .ref 1004]) dd21_6 rfl ?_
  refine cGF (e := (x1 + 19)) dd21_7 rfl (ck9_s hx1).1 (ck9_s hx1).2 rfl (cf9_9 hx1).1 ?_
  obtain ⟨u2, e_u2, h⟩ := olet h
  refine cPR dd21_10 rfl rfl rfl rfl rfl rfl e_u2 ?_
  refine zGo_s (pc' := 14) (st' := [.ref 1004]) dd21_13 rfl ?_
  refine zGo_s (pc' := 15) (st' := [.ref x1, .ref 1004]) dd21_14 rfl ?_
  refine cGF (e := (x1 + 29)) dd21_15 rfl (ck9_s hx1).1 (ck9_s hx1).2 rfl (cf9_10 hx1).1 ?_
  obtain ⟨u3, e_u3, h⟩ := olet h
  refine cPR dd21_18 rfl rfl rfl rfl rfl rfl e_u3 ?_
  refine zGo_s (pc' := 22) (st' := [.ref 1004]) dd21_21 rfl ?_
  refine zGo_s (pc' := 23) (st' := [.int (0 : Int32), .ref 1004]) dd21_22 rfl ?_
  obtain ⟨u4, e_u4, h⟩ := olet h
  refine cPI dd21_23 rfl rfl rfl rfl rfl rfl e_u4 ?_
  refine zGo_s (pc' := 27) (st' := [.ref 1004]) dd21_26 rfl ?_
  refine zGo_s (pc' := 28) (st' := [.int (-1 : Int32), .ref 1004]) dd21_27 rfl ?_
  obtain ⟨u5, e_u5, h⟩ := olet h
  refine cPI dd21_28 rfl rfl rfl rfl rfl rfl e_u5 ?_
  refine zGo_s (pc' := 32) (st' := [.ref x1]) dd21_31 rfl ?_
  obtain ⟨u6, hq, h⟩ := obn0 h
  refine zCV0 (As := []) (rest := []) (b := x1) (q' := q_286) dd21_32 rfl rfl (rcv_c (ck9_s hx1).1 (ck9_s hx1).2 (by decide)) rfl rfl rfl (f286_ok (d := d) (by omega) hx1 hq) ?_
  refine zGo_s (pc' := 36) (st' := [.int (1 : Int32)]) dd21_35 rfl ?_
  refine zGo_s (pc' := 37) (st' := []) (lv' := [(2, .int (1 : Int32)), (0, .ref 1004), (1, .ref x1)]) dd21_36 rfl ?_
  exact zGo_lv (lv := [(0, .ref 1004), (2, .int (1 : Int32))]) ⟨by simp, by simp, by simp⟩ (f21_37_ok hd _ _ _ _ _ h)
/-! PH.module()I -/
theorem dd20_0 : decode cX11_module 0 = .ok (.aload_n 0, 1) := by decide +kernel
theorem dd20_1 : decode cX11_module 1 = .ok (.getfield 21, 3) := by decide +kernel
theorem dd20_4 : decode cX11_module 4 = .ok (.aload_n 0, 1) := by decide +kernel
theorem dd20_5 : decode cX11_module 5 = .ok (.getfield 39, 3) := by decide +kernel
theorem dd20_8 : decode cX11_module 8 = .ok (.invokevirtual 60, 3) := by decide +kernel
theorem dd20_11 : decode cX11_module 11 = .ok (.istore_n 1, 1) := by decide +kernel
theorem dd20_12 : decode cX11_module 12 = .ok (.aload_n 0, 1) := by decide +kernel
theorem dd20_13 : decode cX11_module 13 = .ok (.getfield 10, 3) := by decide +kernel
theorem dd20_16 : decode cX11_module 16 = .ok (.iconst 0, 1) := by decide +kernel
theorem dd20_17 : decode cX11_module 17 = .ok (.putfield 53, 3) := by decide +kernel
theorem dd20_20 : decode cX11_module 20 = .ok (.iload_n 1, 1) := by decide +kernel
theorem dd20_21 : decode cX11_module 21 = .ok (.ifCond .eq 19, 3) := by decide +kernel
theorem dd20_24 : decode cX11_module 24 = .ok (.aload_n 0, 1) := by decide +kernel
theorem dd20_25 : decode cX11_module 25 = .ok (.aload_n 0, 1) := by decide +kernel
theorem dd20_26 : decode cX11_module 26 = .ok (.getfield 21, 3) := by decide +kernel
theorem dd20_29 : decode cX11_module 29 = .ok (.getfield 64, 3) := by decide +kernel
theorem dd20_32 : decode cX11_module 32 = .ok (.putfield 46, 3) := by decide +kernel
theorem dd20_35 : decode cX11_module 35 = .ok (.bipush (-10), 2) := by decide +kernel
theorem dd20_37 : decode cX11_module 37 = .ok (.iload_n 1, 1) := by decide +kernel
theorem dd20_38 : decode cX11_module 38 = .ok (.isub, 1) := by decide +kernel
theorem dd20_39 : decode cX11_module 39 = .ok (.ireturn, 1) := by decide +kernel
theorem dd20_40 : decode cX11_module 40 = .ok (.aload_n 0, 1) := by decide +kernel
theorem dd20_41 : decode cX11_module 41 = .ok (.getfield 35, 3) := by decide +kernel
theorem dd20_44 : decode cX11_module 44 = .ok (.astore_n 2, 1) := by decide +kernel
theorem dd20_45 : decode cX11_module 45 = .ok (.aload_n 0, 1) := by decide +kernel
theorem dd20_46 : decode cX11_module 46 = .ok (.aload_n 0, 1) := by decide +kernel
theorem dd20_47 : decode cX11_module 47 = .ok (.getfield 39, 3) := by decide +kernel
theorem dd20_50 : decode cX11_module 50 = .ok (.putfield 35, 3) := by decide +kernel
theorem dd20_53 : decode cX11_module 53 = .ok (.aload_n 0, 1) := by decide +kernel
theorem dd20_54 : decode cX11_module 54 = .ok (.aload_n 2, 1) := by decide +kernel
theorem dd20_55 : decode cX11_module 55 = .ok (.putfield 39, 3) := by decide +kernel
theorem dd20_58 : decode cX11_module 58 = .ok (.aload_n 0, 1) := by decide +kernel
theorem dd20_59 : decode cX11_module 59 = .ok (.iconst 1, 1) := by decide +kernel
theorem dd20_60 : decode cX11_module 60 = .ok (.putfield 42, 3) := by decide +kernel
theorem dd20_63 : decode cX11_module 63 = .ok (.aload_n 0, 1) := by decide +kernel
theorem dd20_64 : decode cX11_module 64 = .ok (.iconst (-1), 1) := by decide +kernel
theorem dd20_65 : decode cX11_module 65 = .ok (.putfield 46, 3) := by decide +kernel
theorem dd20_68 : decode cX11_module 68 = .ok (.aload_n 0, 1) := by decide +kernel
theorem dd20_69 : decode cX11_module 69 = .ok (.getfield 28, 3) := by decide +kernel
theorem dd20_72 : decode cX11_module 72 = .ok (.iconst 0, 1) := by decide +kernel
theorem dd20_73 : decode cX11_module 73 = .ok (.putfield 67, 3) := by decide +kernel
theorem dd20_76 : decode cX11_module 76 = .ok (.aload_n 0, 1) := by decide +kernel
theorem dd20_77 : decode cX11_module 77 = .ok (.getfield 35, 3) := by decide +kernel
theorem dd20_80 : decode cX11_module 80 = .ok (.getfield 70, 3) := by decide +kernel
theorem dd20_83 : decode cX11_module 83 = .ok (.bipush 8, 2) := by decide +kernel
theorem dd20_85 : decode cX11_module 85 = .ok (.iaload, 1) := by decide +kernel
theorem dd20_86 : decode cX11_module 86 = .ok (.ireturn, 1) := by decide +kernel
def f20 (n : Nat) (s : zσ) : Option (Int32 × zσ) :=
    zrd 9 (s.2.2 1000 4) fun a1 =>
    yb1 (f21 n a1 s) fun v3 u2 =>
    zlet (sI u2 1001 2 (0 : Int32)) fun u4 =>
    if v3 = (0 : Int32) then
    zrd 9 (u4.2.2 1000 3) fun a5 =>
    zrd 9 (u4.2.2 1000 4) fun a6 =>
    zlet (sR u4 1000 3 (some a6)) fun u7 =>
    zlet (sR u7 1000 4 (some a5)) fun u8 =>
    zlet (sI u8 1000 5 (1 : Int32)) fun u9 =>
    zlet (sI u9 1000 6 (-1 : Int32)) fun u10 =>
    zlet (sI u10 1007 11 (0 : Int32)) fun u11 =>
    zrd 9 (u11.2.2 1000 3) fun a12 =>
    if zin? (8 : Int32) 9 = true then
    some ((u11.1 (a12 + 11) (nx (8 : Int32))), u11)
    else none
    else zlet (sI u4 1000 6 (u4.1 1004 11)) fun u13 =>
    some (((-10 : Int32) - v3), u13)
set_option maxRecDepth 20000 in
theorem f20_ok {n d : Nat} {s : zσ} {v : Int32} {s2 : zσ} (hd : 225 ≤ d) (h : f20 n s = some (v, s2)) {w : zσ} {fz : Bool} {L : Nat} {xs : Nat → Int32} : zGo (zX fz L xs) d q_20 (0, [(0, .ref 1000)], [], zmk s w, 0, 0) (some (.int v), zmk s2 w, 0, 0) := by
  obtain ⟨d, rfl⟩ : ∃ d0, d = d0 + 1 := ⟨d - 1, by omega⟩
  unfold f20 at h
  refine zGo_s (pc' := 1) (st' := [.ref 1000]) dd20_0 rfl ?_
  refine cGF (e := 1004) dd20_1 rfl rfl rfl rfl rfl ?_
  refine zGo_s (pc' := 5) (st' := [.ref 1000, .ref 1004]) dd20_4 rfl ?_
  obtain ⟨a1, e_a1, c_a1, h⟩ := ordd h
  refine cGR dd20_5 rfl rfl rfl rfl e_a1 ?_
  obtain ⟨v3, u2, hq, h⟩ := obnd h
  refine zCV1 (As := [.ref a1]) (rest := []) (b := 1004) (q' := q_21) dd20_8 rfl rfl (rcv_c rfl rfl (by decide)) rfl rfl rfl (f21_ok (d := d) (by omega) c_a1 hq) ?_
  refine zGo_s (pc' := 12) (st' := []) (lv' := [(1, .int v3), (0, .ref 1000)]) dd20_11 rfl ?_
  refine zGo_s (pc' := 13) (st' := [.ref 1000]) dd20_12 rfl ?_
  refine cGF (e := 1001) dd20_13 rfl rfl rfl rfl rfl ?_
  refine zGo_s (pc' := 17) (st' := [.int (0 : Int32), .ref 1001]) dd20_16 rfl ?_
  obtain ⟨u4, e_u4, h⟩ := olet h
  refine cPI dd20_17 rfl rfl rfl rfl rfl rfl e_u4 ?_
  refine zGo_s (pc' := 21) (st' := [.int v3]) dd20_20 rfl ?_
  rcases oite h with ⟨hc, h⟩ | ⟨hc, h⟩
  · refine zUT dd20_21 rfl (kEqT hc) ?_
    refine zGo_s (pc' := 41) (st' := [.ref 1000]) dd20_40 rfl ?_
    obtain ⟨a5, e_a5, c_a5, h⟩ := ordd h
    refine cGR dd20_41 rfl rfl rfl rfl e_a5 ?_
    refine zGo_s (pc' := 45) (st' := []) (lv' := [(2, .ref a5), (1, .int v3), (0, .ref 1000)]) dd20_44 rfl ?_
    refine zGo_s (pc' := 46) (st' := [.ref 1000]) dd20_45 rfl ?_
    refine zGo_s (pc' := 47) (st' := [.ref 1000, .ref 1000]) dd20_46 rfl ?_
    obtain ⟨a6, e_a6, c_a6, h⟩ := ordd h
    refine cGR dd20_47 rfl rfl rfl rfl e_a6 ?_
    obtain ⟨u7, e_u7, h⟩ := olet h
    refine cPR dd20_50 rfl rfl rfl rfl rfl rfl e_u7 ?_
    refine zGo_s (pc' := 54) (st' := [.ref 1000]) dd20_53 rfl ?_
    refine zGo_s (pc' := 55) (st' := [.ref a5, .ref 1000]) dd20_54 rfl ?_
    obtain ⟨u8, e_u8, h⟩ := olet h
    refine cPR dd20_55 rfl rfl rfl rfl rfl rfl e_u8 ?_
    refine zGo_s (pc' := 59) (st' := [.ref 1000]) dd20_58 rfl ?_
    refine zGo_s (pc' := 60) (st' := [.int (1 : Int32), .ref 1000]) dd20_59 rfl ?_
    obtain ⟨u9, e_u9, h⟩ := olet h
    refine cPI dd20_60 rfl rfl rfl rfl rfl rfl e_u9 ?_
    refine zGo_s (pc' := 64) (st' := [.ref 1000]) dd20_63 rfl ?_
    refine zGo_s (pc' := 65) (st' := [.int (-1 : Int32), .ref 1000]) dd20_64 rfl ?_
    obtain ⟨u10, e_u10, h⟩ := olet h
    refine cPI dd20_65 rfl rfl rfl rfl rfl rfl e_u10 ?_
    refine zGo_s (pc' := 69) (st' := [.ref 1000]) dd20_68 rfl ?_
    refine cGF (e := 1007) dd20_69 rfl rfl rfl rfl rfl ?_
    refine zGo_s (pc' := 73) (st' := [.int (0 : Int32), .ref 1007]) dd20_72 rfl ?_
    obtain ⟨u11, e_u11, h⟩ := olet h
    refine cPI dd20_73 rfl rfl rfl rfl rfl rfl e_u11 ?_
    refine zGo_s (pc' := 77) (st' := [.ref 1000]) dd20_76 rfl ?_
    obtain ⟨a12, e_a12, c_a12, h⟩ := ordd h
    refine cGR dd20_77 rfl rfl rfl rfl e_a12 ?_
    refine cGF (e := (a12 + 11)) dd20_80 rfl (ck9_s c_a12).1 (ck9_s c_a12).2 rfl (cf9_1 c_a12).1 ?_
    refine zGo_s (pc' := 85) (st' := [.int (8 : Int32), .ref (a12 + 11)]) dd20_83 rfl ?_
    obtain ⟨hi, h⟩ := ochk h
    refine cIA dd20_85 (cf9_1 c_a12).2.1 (cf9_1 c_a12).2.2 hi ?_
    obtain ⟨rfl, rfl⟩ := oret h
    exact zGo_ret dd20_86 rfl rfl
  · refine zUF dd20_21 (kEqF hc) ?_
    refine zGo_s (pc' := 25) (st' := [.ref 1000]) dd20_24 rfl ?_
    refine zGo_s (pc' := 26) (st' := [.ref 1000, .ref 1000]) dd20_25 rfl ?_
    refine cGF (e := 1004) dd20_26 rfl rfl rfl rfl rfl ?_
    refine cGI dd20_29 rfl rfl rfl rfl ?_
    obtain ⟨u13, e_u13, h⟩ := olet h
    refine cPI dd20_32 rfl rfl rfl rfl rfl rfl e_u13 ?_
    refine zGo_s (pc' := 37) (st' := [.int (-10 : Int32)]) dd20_35 rfl ?_
    refine zGo_s (pc' := 38) (st' := [.int v3, .int (-10 : Int32)]) dd20_37 rfl ?_
    refine zGo_s (pc' := 39) (st' := [.int ((-10 : Int32) - v3)]) dd20_38 rfl ?_
    obtain ⟨rfl, rfl⟩ := oret h
    exact zGo_ret dd20_39 rfl rfl
/-! PH.place()I -/
theorem dd69_0 : decode cX11_place 0 = .ok (.aload_n 0, 1) := by decide +kernel
theorem dd69_1 : decode cX11_place 1 = .ok (.getfield 46, 3) := by decide +kernel
theorem dd69_4 : decode cX11_place 4 = .ok (.ireturn, 1) := by decide +kernel
def f69 (n : Nat) (s : zσ) : Option (Int32 × zσ) :=
    some ((s.1 1000 6), s)
set_option maxRecDepth 20000 in
theorem f69_ok {n d : Nat} {s : zσ} {v : Int32} {s2 : zσ} (hd : 0 ≤ d) (h : f69 n s = some (v, s2)) {w : zσ} {fz : Bool} {L : Nat} {xs : Nat → Int32} : zGo (zX fz L xs) d q_69 (0, [(0, .ref 1000)], [], zmk s w, 0, 0) (some (.int v), zmk s2 w, 0, 0) := by
  unfold f69 at h
  refine zGo_s (pc' := 1) (st' := [.ref 1000]) dd69_0 rfl ?_
  refine cGI dd69_1 rfl rfl rfl rfl ?_
  obtain ⟨rfl, rfl⟩ := oret h
  exact zGo_ret dd69_4 rfl rfl
/-! PH.declared(I)I -/
theorem dd70_0 : decode cX11_declared 0 = .ok (.iload_n 1, 1) := by decide +kernel
theorem dd70_1 : decode cX11_declared 1 = .ok (.ifCond .lt 9, 3) := by decide +kernel
theorem dd70_4 : decode cX11_declared 4 = .ok (.iload_n 1, 1) := by decide +kernel
theorem dd70_5 : decode cX11_declared 5 = .ok (.bipush 10, 2) := by decide +kernel
theorem dd70_7 : decode cX11_declared 7 = .ok (.if_icmp .le 6, 3) := by decide +kernel
theorem dd70_10 : decode cX11_declared 10 = .ok (.bipush (-2), 2) := by decide +kernel
theorem dd70_12 : decode cX11_declared 12 = .ok (.ireturn, 1) := by decide +kernel
theorem dd70_13 : decode cX11_declared 13 = .ok (.iload_n 1, 1) := by decide +kernel
theorem dd70_14 : decode cX11_declared 14 = .ok (.bipush 9, 2) := by decide +kernel
theorem dd70_16 : decode cX11_declared 16 = .ok (.if_icmp .ne 14, 3) := by decide +kernel
theorem dd70_19 : decode cX11_declared 19 = .ok (.aload_n 0, 1) := by decide +kernel
theorem dd70_20 : decode cX11_declared 20 = .ok (.getfield 35, 3) := by decide +kernel
theorem dd70_23 : decode cX11_declared 23 = .ok (.getfield 74, 3) := by decide +kernel
theorem dd70_26 : decode cX11_declared 26 = .ok (.getfield 78, 3) := by decide +kernel
theorem dd70_29 : decode cX11_declared 29 = .ok (.ireturn, 1) := by decide +kernel
theorem dd70_30 : decode cX11_declared 30 = .ok (.iload_n 1, 1) := by decide +kernel
theorem dd70_31 : decode cX11_declared 31 = .ok (.bipush 10, 2) := by decide +kernel
theorem dd70_33 : decode cX11_declared 33 = .ok (.if_icmp .ne 16, 3) := by decide +kernel
theorem dd70_36 : decode cX11_declared 36 = .ok (.aload_n 0, 1) := by decide +kernel
theorem dd70_37 : decode cX11_declared 37 = .ok (.getfield 35, 3) := by decide +kernel
theorem dd70_40 : decode cX11_declared 40 = .ok (.getfield 74, 3) := by decide +kernel
theorem dd70_43 : decode cX11_declared 43 = .ok (.getfield 83, 3) := by decide +kernel
theorem dd70_46 : decode cX11_declared 46 = .ok (.goto 12, 3) := by decide +kernel
theorem dd70_49 : decode cX11_declared 49 = .ok (.aload_n 0, 1) := by decide +kernel
theorem dd70_50 : decode cX11_declared 50 = .ok (.getfield 35, 3) := by decide +kernel
theorem dd70_53 : decode cX11_declared 53 = .ok (.getfield 70, 3) := by decide +kernel
theorem dd70_56 : decode cX11_declared 56 = .ok (.iload_n 1, 1) := by decide +kernel
theorem dd70_57 : decode cX11_declared 57 = .ok (.iaload, 1) := by decide +kernel
theorem dd70_58 : decode cX11_declared 58 = .ok (.ireturn, 1) := by decide +kernel
def f70 (n : Nat) (x1 : Int32) (s : zσ) : Option (Int32 × zσ) :=
    if x1 < (0 : Int32) then
    some ((-2 : Int32), s)
    else if (10 : Int32) < x1 then
    some ((-2 : Int32), s)
    else if x1 = (9 : Int32) then
    zrd 9 (s.2.2 1000 3) fun a3 =>
    some ((s.1 (a3 + 19) 9), s)
    else if x1 = (10 : Int32) then
    zrd 9 (s.2.2 1000 3) fun a2 =>
    some ((s.1 (a2 + 19) 10), s)
    else zrd 9 (s.2.2 1000 3) fun a1 =>
    if zin? x1 9 = true then
    some ((s.1 (a1 + 11) (nx x1)), s)
    else none
set_option maxRecDepth 20000 in
theorem f70_ok {n d : Nat} {x1 : Int32} {s : zσ} {v : Int32} {s2 : zσ} (hd : 0 ≤ d) (h : f70 n x1 s = some (v, s2)) {w : zσ} {fz : Bool} {L : Nat} {xs : Nat → Int32} : zGo (zX fz L xs) d q_70 (0, [(0, .ref 1000), (1, .int x1)], [], zmk s w, 0, 0) (some (.int v), zmk s2 w, 0, 0) := by
  unfold f70 at h
  refine zGo_s (pc' := 1) (st' := [.int x1]) dd70_0 rfl ?_
  rcases oite h with ⟨hc, h⟩ | ⟨hc, h⟩
  · refine zUT dd70_1 rfl (kLtT hc) ?_
    refine zGo_s (pc' := 12) (st' := [.int (-2 : Int32)]) dd70_10 rfl ?_
    obtain ⟨rfl, rfl⟩ := oret h
    exact zGo_ret dd70_12 rfl rfl
  · refine zUF dd70_1 (kLtF hc) ?_
    refine zGo_s (pc' := 5) (st' := [.int x1]) dd70_4 rfl ?_
    refine zGo_s (pc' := 7) (st' := [.int (10 : Int32), .int x1]) dd70_5 rfl ?_
    rcases oite h with ⟨hc, h⟩ | ⟨hc, h⟩
    · refine zIF dd70_7 (kLeF hc) ?_
      refine zGo_s (pc' := 12) (st' := [.int (-2 : Int32)]) dd70_10 rfl ?_
      obtain ⟨rfl, rfl⟩ := oret h
      exact zGo_ret dd70_12 rfl rfl
    · refine zIT dd70_7 rfl (kLeT hc) ?_
      refine zGo_s (pc' := 14) (st' := [.int x1]) dd70_13 rfl ?_
      refine zGo_s (pc' := 16) (st' := [.int (9 : Int32), .int x1]) dd70_14 rfl ?_
      rcases oite h with ⟨hc, h⟩ | ⟨hc, h⟩
      · refine zIF dd70_16 (kNeF hc) ?_
        refine zGo_s (pc' := 20) (st' := [.ref 1000]) dd70_19 rfl ?_
        obtain ⟨a3, e_a3, c_a3, h⟩ := ordd h
        refine cGR dd70_20 rfl rfl rfl rfl e_a3 ?_
        refine cGF (e := (a3 + 19)) dd70_23 rfl (ck9_s c_a3).1 (ck9_s c_a3).2 rfl (cf9_9 c_a3).1 ?_
        refine cGI dd70_26 rfl (ck6_s (cf9_9 c_a3).2).1 (ck6_s (cf9_9 c_a3).2).2 rfl ?_
        obtain ⟨rfl, rfl⟩ := oret h
        exact zGo_ret dd70_29 rfl rfl
      · refine zIT dd70_16 rfl (kNeT hc) ?_
        refine zGo_s (pc' := 31) (st' := [.int x1]) dd70_30 rfl ?_
        refine zGo_s (pc' := 33) (st' := [.int (10 : Int32), .int x1]) dd70_31 rfl ?_
        rcases oite h with ⟨hc, h⟩ | ⟨hc, h⟩
        · refine zIF dd70_33 (kNeF hc) ?_
          refine zGo_s (pc' := 37) (st' := [.ref 1000]) dd70_36 rfl ?_
          obtain ⟨a2, e_a2, c_a2, h⟩ := ordd h
          refine cGR dd70_37 rfl rfl rfl rfl e_a2 ?_
          refine cGF (e := (a2 + 19)) dd70_40 rfl (ck9_s c_a2).1 (ck9_s c_a2).2 rfl (cf9_9 c_a2).1 ?_
          refine cGI dd70_43 rfl (ck6_s (cf9_9 c_a2).2).1 (ck6_s (cf9_9 c_a2).2).2 rfl ?_
          refine zGo_s (pc' := 58) (st' := [.int (s.1 (a2 + 19) 10)]) dd70_46 rfl ?_
          obtain ⟨rfl, rfl⟩ := oret h
          exact zGo_ret dd70_58 rfl rfl
        · refine zIT dd70_33 rfl (kNeT hc) ?_
          refine zGo_s (pc' := 50) (st' := [.ref 1000]) dd70_49 rfl ?_
          obtain ⟨a1, e_a1, c_a1, h⟩ := ordd h
          refine cGR dd70_50 rfl rfl rfl rfl e_a1 ?_
          refine cGF (e := (a1 + 11)) dd70_53 rfl (ck9_s c_a1).1 (ck9_s c_a1).2 rfl (cf9_1 c_a1).1 ?_
          refine zGo_s (pc' := 57) (st' := [.int x1, .ref (a1 + 11)]) dd70_56 rfl ?_
          obtain ⟨hi, h⟩ := ochk h
          refine cIA dd70_57 (cf9_1 c_a1).2.1 (cf9_1 c_a1).2.2 hi ?_
          obtain ⟨rfl, rfl⟩ := oret h
          exact zGo_ret dd70_58 rfl rfl
/-! PH.find(IJ)I -/
theorem dd71_0 : decode cX11_find 0 = .ok (.iload_n 1, 1) := by decide +kernel
theorem dd71_1 : decode cX11_find 1 = .ok (.ifCond .lt 9, 3) := by decide +kernel
theorem dd71_4 : decode cX11_find 4 = .ok (.iload_n 1, 1) := by decide +kernel
theorem dd71_5 : decode cX11_find 5 = .ok (.bipush 9, 2) := by decide +kernel
theorem dd71_7 : decode cX11_find 7 = .ok (.if_icmp .lt 7, 3) := by decide +kernel
theorem dd71_10 : decode cX11_find 10 = .ok (.iconst (-1), 1) := by decide +kernel
theorem dd71_11 : decode cX11_find 11 = .ok (.goto 12, 3) := by decide +kernel
theorem dd71_14 : decode cX11_find 14 = .ok (.aload_n 0, 1) := by decide +kernel
theorem dd71_15 : decode cX11_find 15 = .ok (.getfield 35, 3) := by decide +kernel
theorem dd71_18 : decode cX11_find 18 = .ok (.iload_n 1, 1) := by decide +kernel
theorem dd71_19 : decode cX11_find 19 = .ok (.lload_n 2, 1) := by decide +kernel
theorem dd71_20 : decode cX11_find 20 = .ok (.invokevirtual 86, 3) := by decide +kernel
theorem dd71_23 : decode cX11_find 23 = .ok (.ireturn, 1) := by decide +kernel
def f71_10 (n : Nat) (s : zσ) : Option (Int32 × zσ) :=
    some ((-1 : Int32), s)
set_option maxRecDepth 20000 in
theorem f71_10_ok {n d : Nat} {s : zσ} {v : Int32} {s2 : zσ} (hd : 1 ≤ d) (h : f71_10 n s = some (v, s2)) {w : zσ} {fz : Bool} {L : Nat} {xs : Nat → Int32} : zGo (zX fz L xs) d q_71 (10, [], [], zmk s w, 0, 0) (some (.int v), zmk s2 w, 0, 0) := by
  obtain ⟨d, rfl⟩ : ∃ d0, d = d0 + 1 := ⟨d - 1, by omega⟩
  unfold f71_10 at h
  refine zGo_s (pc' := 11) (st' := [.int (-1 : Int32)]) dd71_10 rfl ?_
  refine zGo_s (pc' := 23) (st' := [.int (-1 : Int32)]) dd71_11 rfl ?_
  obtain ⟨rfl, rfl⟩ := oret h
  exact zGo_ret dd71_23 rfl rfl
def f71 (n : Nat) (x1 : Int32) (x2 : Int64) (s : zσ) : Option (Int32 × zσ) :=
    if x1 < (0 : Int32) then
    f71_10 n s
    else if x1 < (9 : Int32) then
    zrd 9 (s.2.2 1000 3) fun a1 =>
    yb1 (f36 n a1 x1 x2 s) fun v3 u2 =>
    some (v3, u2)
    else f71_10 n s
set_option maxRecDepth 20000 in
theorem f71_ok {n d : Nat} {x1 : Int32} {x2 : Int64} {s : zσ} {v : Int32} {s2 : zσ} (hd : 1 ≤ d) (h : f71 n x1 x2 s = some (v, s2)) {w : zσ} {fz : Bool} {L : Nat} {xs : Nat → Int32} : zGo (zX fz L xs) d q_71 (0, [(0, .ref 1000), (1, .int x1), (2, .long x2)], [], zmk s w, 0, 0) (some (.int v), zmk s2 w, 0, 0) := by
  obtain ⟨d, rfl⟩ : ∃ d0, d = d0 + 1 := ⟨d - 1, by omega⟩
  unfold f71 at h
  refine zGo_s (pc' := 1) (st' := [.int x1]) dd71_0 rfl ?_
  rcases oite h with ⟨hc, h⟩ | ⟨hc, h⟩
  · refine zUT dd71_1 rfl (kLtT hc) ?_
    exact zGo_lv (lv := []) ⟨by simp, by simp, by simp⟩ (f71_10_ok hd h)
  · refine zUF dd71_1 (kLtF hc) ?_
    refine zGo_s (pc' := 5) (st' := [.int x1]) dd71_4 rfl ?_
    refine zGo_s (pc' := 7) (st' := [.int (9 : Int32), .int x1]) dd71_5 rfl ?_
    rcases oite h with ⟨hc, h⟩ | ⟨hc, h⟩
    · refine zIT dd71_7 rfl (kLtT hc) ?_
      refine zGo_s (pc' := 15) (st' := [.ref 1000]) dd71_14 rfl ?_
      obtain ⟨a1, e_a1, c_a1, h⟩ := ordd h
      refine cGR dd71_15 rfl rfl rfl rfl e_a1 ?_
      refine zGo_s (pc' := 19) (st' := [.int x1, .ref a1]) dd71_18 rfl ?_
      refine zGo_s (pc' := 20) (st' := [.long x2, .int x1, .ref a1]) dd71_19 rfl ?_
      obtain ⟨v3, u2, hq, h⟩ := obnd h
      refine zCV1 (As := [.int x1, .long x2]) (rest := []) (b := a1) (q' := q_36) dd71_20 rfl rfl (rcv_c (ck9_s c_a1).1 (ck9_s c_a1).2 (by decide)) rfl rfl rfl (f36_ok (d := d) (by omega) c_a1 hq) ?_
      obtain ⟨rfl, rfl⟩ := oret h
      exact zGo_ret dd71_23 rfl rfl
    · refine zIF dd71_7 (kLtF hc) ?_
      exact zGo_lv (lv := []) ⟨by simp, by simp, by simp⟩ (f71_10_ok hd h)
/-! PH.processors(I)I -/
theorem dd72_0 : decode cX11_processors 0 = .ok (.iload_n 1, 1) := by decide +kernel
theorem dd72_1 : decode cX11_processors 1 = .ok (.iconst 1, 1) := by decide +kernel
theorem dd72_2 : decode cX11_processors 2 = .ok (.if_icmp .lt 8, 3) := by decide +kernel
theorem dd72_5 : decode cX11_processors 5 = .ok (.iload_n 1, 1) := by decide +kernel
theorem dd72_6 : decode cX11_processors 6 = .ok (.iconst 3, 1) := by decide +kernel
theorem dd72_7 : decode cX11_processors 7 = .ok (.if_icmp .le 6, 3) := by decide +kernel
theorem dd72_10 : decode cX11_processors 10 = .ok (.bipush (-2), 2) := by decide +kernel
theorem dd72_12 : decode cX11_processors 12 = .ok (.ireturn, 1) := by decide +kernel
theorem dd72_13 : decode cX11_processors 13 = .ok (.aload_n 0, 1) := by decide +kernel
theorem dd72_14 : decode cX11_processors 14 = .ok (.getfield 50, 3) := by decide +kernel
theorem dd72_17 : decode cX11_processors 17 = .ok (.istore_n 2, 1) := by decide +kernel
theorem dd72_18 : decode cX11_processors 18 = .ok (.aload_n 0, 1) := by decide +kernel
theorem dd72_19 : decode cX11_processors 19 = .ok (.iload_n 1, 1) := by decide +kernel
theorem dd72_20 : decode cX11_processors 20 = .ok (.putfield 50, 3) := by decide +kernel
theorem dd72_23 : decode cX11_processors 23 = .ok (.iload_n 2, 1) := by decide +kernel
theorem dd72_24 : decode cX11_processors 24 = .ok (.ireturn, 1) := by decide +kernel
def f72 (n : Nat) (x1 : Int32) (s : zσ) : Option (Int32 × zσ) :=
    if x1 < (1 : Int32) then
    some ((-2 : Int32), s)
    else if (3 : Int32) < x1 then
    some ((-2 : Int32), s)
    else zlet ((s.1 1000 7)) fun v1 =>
    zlet (sI s 1000 7 x1) fun u2 =>
    some (v1, u2)
set_option maxRecDepth 20000 in
theorem f72_ok {n d : Nat} {x1 : Int32} {s : zσ} {v : Int32} {s2 : zσ} (hd : 0 ≤ d) (h : f72 n x1 s = some (v, s2)) {w : zσ} {fz : Bool} {L : Nat} {xs : Nat → Int32} : zGo (zX fz L xs) d q_72 (0, [(0, .ref 1000), (1, .int x1)], [], zmk s w, 0, 0) (some (.int v), zmk s2 w, 0, 0) := by
  unfold f72 at h
  refine zGo_s (pc' := 1) (st' := [.int x1]) dd72_0 rfl ?_
  refine zGo_s (pc' := 2) (st' := [.int (1 : Int32), .int x1]) dd72_1 rfl ?_
  rcases oite h with ⟨hc, h⟩ | ⟨hc, h⟩
  · refine zIT dd72_2 rfl (kLtT hc) ?_
    refine zGo_s (pc' := 12) (st' := [.int (-2 : Int32)]) dd72_10 rfl ?_
    obtain ⟨rfl, rfl⟩ := oret h
    exact zGo_ret dd72_12 rfl rfl
  · refine zIF dd72_2 (kLtF hc) ?_
    refine zGo_s (pc' := 6) (st' := [.int x1]) dd72_5 rfl ?_
    refine zGo_s (pc' := 7) (st' := [.int (3 : Int32), .int x1]) dd72_6 rfl ?_
    rcases oite h with ⟨hc, h⟩ | ⟨hc, h⟩
    · refine zIF dd72_7 (kLeF hc) ?_
      refine zGo_s (pc' := 12) (st' := [.int (-2 : Int32)]) dd72_10 rfl ?_
      obtain ⟨rfl, rfl⟩ := oret h
      exact zGo_ret dd72_12 rfl rfl
    · refine zIT dd72_7 rfl (kLeT hc) ?_
      refine zGo_s (pc' := 14) (st' := [.ref 1000]) dd72_13 rfl ?_
      refine cGI dd72_14 rfl rfl rfl rfl ?_
      obtain ⟨v1, e_v1, h⟩ := olet h
      refine zGo_is1 e_v1 dd72_17 (x' := (18, [(2, .int v1), (0, .ref 1000), (1, .int x1)], [], _, _, _)) rfl ?_
      refine zGo_s (pc' := 19) (st' := [.ref 1000]) dd72_18 rfl ?_
      refine zGo_s (pc' := 20) (st' := [.int x1, .ref 1000]) dd72_19 rfl ?_
      obtain ⟨u2, e_u2, h⟩ := olet h
      refine cPI dd72_20 rfl rfl rfl rfl rfl rfl e_u2 ?_
      refine zGo_s (pc' := 24) (st' := [.int v1]) dd72_23 rfl ?_
      obtain ⟨rfl, rfl⟩ := oret h
      exact zGo_ret dd72_24 rfl rfl
/-! PH$Store.clear([I)V -/
theorem dd75_0 : decode cX7_clear 0 = .ok (.aload_n 1, 1) := by decide +kernel
theorem dd75_1 : decode cX7_clear 1 = .ok (.iconst 0, 1) := by decide +kernel
theorem dd75_2 : decode cX7_clear 2 = .ok (.aload_n 0, 1) := by decide +kernel
theorem dd75_3 : decode cX7_clear 3 = .ok (.getfield 9, 3) := by decide +kernel
theorem dd75_6 : decode cX7_clear 6 = .ok (.iconst 0, 1) := by decide +kernel
theorem dd75_7 : decode cX7_clear 7 = .ok (.aload_n 0, 1) := by decide +kernel
theorem dd75_8 : decode cX7_clear 8 = .ok (.getfield 9, 3) := by decide +kernel
theorem dd75_11 : decode cX7_clear 11 = .ok (.arraylength, 1) := by decide +kernel
theorem dd75_12 : decode cX7_clear 12 = .ok (.invokestatic 28, 3) := by decide +kernel
theorem dd75_15 : decode cX7_clear 15 = .ok (.aload_n 0, 1) := by decide +kernel
theorem dd75_16 : decode cX7_clear 16 = .ok (.getfield 15, 3) := by decide +kernel
theorem dd75_19 : decode cX7_clear 19 = .ok (.iconst (-1), 1) := by decide +kernel
theorem dd75_20 : decode cX7_clear 20 = .ok (.invokestatic 34, 3) := by decide +kernel
theorem dd75_23 : decode cX7_clear 23 = .ok (.return_, 1) := by decide +kernel
def f75 (n : Nat) (x1 : Nat) (s : zσ) : Option zσ :=
    if zcpo (0 : Int32) (0 : Int32) (Int32.ofNat 8) 8 8 = true then
    zlet (sC s x1 (nx (0 : Int32)) 1010 (nx (0 : Int32)) (nx (Int32.ofNat 8))) fun u1 =>
    zlet (sF u1 1011 0 4 (-1 : Int32)) fun u2 =>
    some u2
    else none
set_option maxRecDepth 20000 in
theorem f75_ok {n d : Nat} {x1 : Nat} {s : zσ} {s2 : zσ} (hd : 2 ≤ d) (hx1c : zcs x1 = true) (hx1s : zsh x1 = (1, 0, 8)) (h : f75 n x1 s = some s2) {w : zσ} {fz : Bool} {L : Nat} {xs : Nat → Int32} : zGo (zX fz L xs) d q_75 (0, [(0, .ref 1009), (1, .ref x1)], [], zmk s w, 0, 0) (none, zmk s2 w, 0, 0) := by
  obtain ⟨d, rfl⟩ : ∃ d0, d = d0 + 1 := ⟨d - 1, by omega⟩
  unfold f75 at h
  refine zGo_s (pc' := 1) (st' := [.ref x1]) dd75_0 rfl ?_
  refine zGo_s (pc' := 2) (st' := [.int (0 : Int32), .ref x1]) dd75_1 rfl ?_
  refine zGo_s (pc' := 3) (st' := [.ref 1009, .int (0 : Int32), .ref x1]) dd75_2 rfl ?_
  refine cGF (e := 1010) dd75_3 rfl rfl rfl rfl rfl ?_
  refine zGo_s (pc' := 7) (st' := [.int (0 : Int32), .ref 1010, .int (0 : Int32), .ref x1]) dd75_6 rfl ?_
  refine zGo_s (pc' := 8) (st' := [.ref 1009, .int (0 : Int32), .ref 1010, .int (0 : Int32), .ref x1]) dd75_7 rfl ?_
  refine cGF (e := 1010) dd75_8 rfl rfl rfl rfl rfl ?_
  refine cAL dd75_11 rfl rfl (by decide) ?_
  obtain ⟨hi, h⟩ := ochk h
  obtain ⟨u1, e_u1, h⟩ := olet h
  refine cCP dd75_12 rfl rfl hx1c hx1s rfl rfl hi e_u1 ?_
  refine zGo_s (pc' := 16) (st' := [.ref 1009]) dd75_15 rfl ?_
  refine cGF (e := 1011) dd75_16 rfl rfl rfl rfl rfl ?_
  refine zGo_s (pc' := 20) (st' := [.int (-1 : Int32), .ref 1011]) dd75_19 rfl ?_
  obtain ⟨u2, e_u2, h⟩ := olet h
  refine zCS0 (As := [.ref 1011, .int (-1 : Int32)]) (rest := []) (q' := q_22) dd75_20 rfl rfl rfl rfl rfl (g_fillc rfl rfl (by decide) e_u2) ?_
  obtain rfl := ore0 h
  exact zGo_ret dd75_23 rfl rfl
/-! PH$Gates.clear([I)V -/
theorem dd76_0 : decode cX2_clear 0 = .ok (.aload_n 1, 1) := by decide +kernel
theorem dd76_1 : decode cX2_clear 1 = .ok (.iconst 0, 1) := by decide +kernel
theorem dd76_2 : decode cX2_clear 2 = .ok (.aload_n 0, 1) := by decide +kernel
theorem dd76_3 : decode cX2_clear 3 = .ok (.getfield 9, 3) := by decide +kernel
theorem dd76_6 : decode cX2_clear 6 = .ok (.iconst 0, 1) := by decide +kernel
theorem dd76_7 : decode cX2_clear 7 = .ok (.aload_n 0, 1) := by decide +kernel
theorem dd76_8 : decode cX2_clear 8 = .ok (.getfield 9, 3) := by decide +kernel
theorem dd76_11 : decode cX2_clear 11 = .ok (.arraylength, 1) := by decide +kernel
theorem dd76_12 : decode cX2_clear 12 = .ok (.invokestatic 33, 3) := by decide +kernel
theorem dd76_15 : decode cX2_clear 15 = .ok (.aload_n 0, 1) := by decide +kernel
theorem dd76_16 : decode cX2_clear 16 = .ok (.getfield 15, 3) := by decide +kernel
theorem dd76_19 : decode cX2_clear 19 = .ok (.iconst (-1), 1) := by decide +kernel
theorem dd76_20 : decode cX2_clear 20 = .ok (.invokestatic 39, 3) := by decide +kernel
theorem dd76_23 : decode cX2_clear 23 = .ok (.aload_n 0, 1) := by decide +kernel
theorem dd76_24 : decode cX2_clear 24 = .ok (.getfield 18, 3) := by decide +kernel
theorem dd76_27 : decode cX2_clear 27 = .ok (.iconst 0, 1) := by decide +kernel
theorem dd76_28 : decode cX2_clear 28 = .ok (.invokestatic 39, 3) := by decide +kernel
theorem dd76_31 : decode cX2_clear 31 = .ok (.aload_n 0, 1) := by decide +kernel
theorem dd76_32 : decode cX2_clear 32 = .ok (.getfield 24, 3) := by decide +kernel
theorem dd76_35 : decode cX2_clear 35 = .ok (.iconst 0, 1) := by decide +kernel
theorem dd76_36 : decode cX2_clear 36 = .ok (.invokestatic 39, 3) := by decide +kernel
theorem dd76_39 : decode cX2_clear 39 = .ok (.aload_n 0, 1) := by decide +kernel
theorem dd76_40 : decode cX2_clear 40 = .ok (.getfield 30, 3) := by decide +kernel
theorem dd76_43 : decode cX2_clear 43 = .ok (.iconst 0, 1) := by decide +kernel
theorem dd76_44 : decode cX2_clear 44 = .ok (.invokestatic 39, 3) := by decide +kernel
theorem dd76_47 : decode cX2_clear 47 = .ok (.return_, 1) := by decide +kernel
def f76 (n : Nat) (x1 : Nat) (s : zσ) : Option zσ :=
    if zcpo (0 : Int32) (0 : Int32) (Int32.ofNat 4) 4 4 = true then
    zlet (sC s x1 (nx (0 : Int32)) 1015 (nx (0 : Int32)) (nx (Int32.ofNat 4))) fun u1 =>
    zlet (sF u1 1016 0 4 (-1 : Int32)) fun u2 =>
    zlet (sF u2 1017 0 32 (0 : Int32)) fun u3 =>
    zlet (sF u3 1019 0 4 (0 : Int32)) fun u4 =>
    zlet (sF u4 1021 0 4 (0 : Int32)) fun u5 =>
    some u5
    else none
set_option maxRecDepth 20000 in
theorem f76_ok {n d : Nat} {x1 : Nat} {s : zσ} {s2 : zσ} (hd : 2 ≤ d) (hx1c : zcs x1 = true) (hx1s : zsh x1 = (1, 0, 4)) (h : f76 n x1 s = some s2) {w : zσ} {fz : Bool} {L : Nat} {xs : Nat → Int32} : zGo (zX fz L xs) d q_76 (0, [(0, .ref 1014), (1, .ref x1)], [], zmk s w, 0, 0) (none, zmk s2 w, 0, 0) := by
  obtain ⟨d, rfl⟩ : ∃ d0, d = d0 + 1 := ⟨d - 1, by omega⟩
  unfold f76 at h
  refine zGo_s (pc' := 1) (st' := [.ref x1]) dd76_0 rfl ?_
  refine zGo_s (pc' := 2) (st' := [.int (0 : Int32), .ref x1]) dd76_1 rfl ?_
  refine zGo_s (pc' := 3) (st' := [.ref 1014, .int (0 : Int32), .ref x1]) dd76_2 rfl ?_
  refine cGF (e := 1015) dd76_3 rfl rfl rfl rfl rfl ?_
  refine zGo_s (pc' := 7) (st' := [.int (0 : Int32), .ref 1015, .int (0 : Int32), .ref x1]) dd76_6 rfl ?_
  refine zGo_s (pc' := 8) (st' := [.ref 1014, .int (0 : Int32), .ref 1015, .int (0 : Int32), .ref x1]) dd76_7 rfl ?_
  refine cGF (e := 1015) dd76_8 rfl rfl rfl rfl rfl ?_
  refine cAL dd76_11 rfl rfl (by decide) ?_
  obtain ⟨hi, h⟩ := ochk h
  obtain ⟨u1, e_u1, h⟩ := olet h
  refine cCP dd76_12 rfl rfl hx1c hx1s rfl rfl hi e_u1 ?_
  refine zGo_s (pc' := 16) (st' := [.ref 1014]) dd76_15 rfl ?_
  refine cGF (e := 1016) dd76_16 rfl rfl rfl rfl rfl ?_
  refine zGo_s (pc' := 20) (st' := [.int (-1 : Int32), .ref 1016]) dd76_19 rfl ?_
  obtain ⟨u2, e_u2, h⟩ := olet h
  refine zCS0 (As := [.ref 1016, .int (-1 : Int32)]) (rest := []) (q' := q_22) dd76_20 rfl rfl rfl rfl rfl (g_fillc rfl rfl (by decide) e_u2) ?_
  refine zGo_s (pc' := 24) (st' := [.ref 1014]) dd76_23 rfl ?_
  refine cGF (e := 1017) dd76_24 rfl rfl rfl rfl rfl ?_
  refine zGo_s (pc' := 28) (st' := [.int (0 : Int32), .ref 1017]) dd76_27 rfl ?_
  obtain ⟨u3, e_u3, h⟩ := olet h
  refine zCS0 (As := [.ref 1017, .int (0 : Int32)]) (rest := []) (q' := q_22) dd76_28 rfl rfl rfl rfl rfl (g_fillc rfl rfl (by decide) e_u3) ?_
  refine zGo_s (pc' := 32) (st' := [.ref 1014]) dd76_31 rfl ?_
  refine cGF (e := 1019) dd76_32 rfl rfl rfl rfl rfl ?_
  refine zGo_s (pc' := 36) (st' := [.int (0 : Int32), .ref 1019]) dd76_35 rfl ?_
  obtain ⟨u4, e_u4, h⟩ := olet h
  refine zCS0 (As := [.ref 1019, .int (0 : Int32)]) (rest := []) (q' := q_22) dd76_36 rfl rfl rfl rfl rfl (g_fillc rfl rfl (by decide) e_u4) ?_
  refine zGo_s (pc' := 40) (st' := [.ref 1014]) dd76_39 rfl ?_
  refine cGF (e := 1021) dd76_40 rfl rfl rfl rfl rfl ?_
  refine zGo_s (pc' := 44) (st' := [.int (0 : Int32), .ref 1021]) dd76_43 rfl ?_
  obtain ⟨u5, e_u5, h⟩ := olet h
  refine zCS0 (As := [.ref 1021, .int (0 : Int32)]) (rest := []) (q' := q_22) dd76_44 rfl rfl rfl rfl rfl (g_fillc rfl rfl (by decide) e_u5) ?_
  obtain rfl := ore0 h
  exact zGo_ret dd76_47 rfl rfl
/-! PH$Timetable.clear()V -/
theorem dd77_0 : decode cX10_clear 0 = .ok (.aload_n 0, 1) := by decide +kernel
theorem dd77_1 : decode cX10_clear 1 = .ok (.getfield 9, 3) := by decide +kernel
theorem dd77_4 : decode cX10_clear 4 = .ok (.iconst (-1), 1) := by decide +kernel
theorem dd77_5 : decode cX10_clear 5 = .ok (.invokestatic 34, 3) := by decide +kernel
theorem dd77_8 : decode cX10_clear 8 = .ok (.iconst 0, 1) := by decide +kernel
theorem dd77_9 : decode cX10_clear 9 = .ok (.istore_n 1, 1) := by decide +kernel
theorem dd77_10 : decode cX10_clear 10 = .ok (.iload_n 1, 1) := by decide +kernel
theorem dd77_11 : decode cX10_clear 11 = .ok (.iconst 4, 1) := by decide +kernel
theorem dd77_12 : decode cX10_clear 12 = .ok (.if_icmp .ge 30, 3) := by decide +kernel
theorem dd77_15 : decode cX10_clear 15 = .ok (.aload_n 0, 1) := by decide +kernel
theorem dd77_16 : decode cX10_clear 16 = .ok (.getfield 24, 3) := by decide +kernel
theorem dd77_19 : decode cX10_clear 19 = .ok (.iload_n 1, 1) := by decide +kernel
theorem dd77_20 : decode cX10_clear 20 = .ok (.iconst 1, 1) := by decide +kernel
theorem dd77_21 : decode cX10_clear 21 = .ok (.bastore, 1) := by decide +kernel
theorem dd77_22 : decode cX10_clear 22 = .ok (.aload_n 0, 1) := by decide +kernel
theorem dd77_23 : decode cX10_clear 23 = .ok (.getfield 28, 3) := by decide +kernel
theorem dd77_26 : decode cX10_clear 26 = .ok (.iload_n 1, 1) := by decide +kernel
theorem dd77_27 : decode cX10_clear 27 = .ok (.iconst 0, 1) := by decide +kernel
theorem dd77_28 : decode cX10_clear 28 = .ok (.bastore, 1) := by decide +kernel
theorem dd77_29 : decode cX10_clear 29 = .ok (.aload_n 0, 1) := by decide +kernel
theorem dd77_30 : decode cX10_clear 30 = .ok (.getfield 31, 3) := by decide +kernel
theorem dd77_33 : decode cX10_clear 33 = .ok (.iload_n 1, 1) := by decide +kernel
theorem dd77_34 : decode cX10_clear 34 = .ok (.iconst 0, 1) := by decide +kernel
theorem dd77_35 : decode cX10_clear 35 = .ok (.iastore, 1) := by decide +kernel
theorem dd77_36 : decode cX10_clear 36 = .ok (.iinc 1 1, 3) := by decide +kernel
theorem dd77_39 : decode cX10_clear 39 = .ok (.goto (-29), 3) := by decide +kernel
theorem dd77_42 : decode cX10_clear 42 = .ok (.return_, 1) := by decide +kernel
def f77_10 (n : Nat) : Nat → Int32 → zσ → Option zσ
  | 0, _, _ => none
  | j + 1, x1, s =>
    if x1 < (4 : Int32) then
    if zin? x1 4 = true then
    zlet (sI s 1027 (nx x1) (vp_nar .boolean (1 : Int32))) fun u1 =>
    if zin? x1 4 = true then
    zlet (sI u1 1028 (nx x1) (vp_nar .boolean (0 : Int32))) fun u2 =>
    if zin? x1 4 = true then
    zlet (sI u2 1029 (nx x1) (0 : Int32)) fun u3 =>
    f77_10 n j (x1 + (1 : Int32)) u3
    else none
    else none
    else none
    else some s
set_option maxRecDepth 20000 in
theorem f77_10_ok {n d : Nat} (hd : 2 ≤ d) : ∀ (j : Nat) (x1 : Int32) (s : zσ) (s2 : zσ), f77_10 n j x1 s = some s2 → ∀ {w : zσ} {fz : Bool} {L : Nat} {xs : Nat → Int32}, zGo (zX fz L xs) d q_77 (10, [(0, .ref 1022), (1, .int x1)], [], zmk s w, 0, 0) (none, zmk s2 w, 0, 0) := by
  obtain ⟨d, rfl⟩ : ∃ d0, d = d0 + 1 := ⟨d - 1, by omega⟩
  intro j
  induction j with
  | zero => intro x1 s s2 h; cases h
  | succ j ih =>
    intro x1 s s2 h w fz L xs
    rw [f77_10] at h
    refine zGo_s (pc' := 11) (st' := [.int x1]) dd77_10 rfl ?_
    refine zGo_s (pc' := 12) (st' := [.int (4 : Int32), .int x1]) dd77_11 rfl ?_
    rcases oite h with ⟨hc, h⟩ | ⟨hc, h⟩
    · refine zIF dd77_12 (kGeF hc) ?_
      refine zGo_s (pc' := 16) (st' := [.ref 1022]) dd77_15 rfl ?_
      refine cGF (e := 1027) dd77_16 rfl rfl rfl rfl rfl ?_
      refine zGo_s (pc' := 20) (st' := [.int x1, .ref 1027]) dd77_19 rfl ?_
      refine zGo_s (pc' := 21) (st' := [.int (1 : Int32), .int x1, .ref 1027]) dd77_20 rfl ?_
      obtain ⟨hi, h⟩ := ochk h
      obtain ⟨u1, e_u1, h⟩ := olet h
      refine cBS dd77_21 rfl rfl rfl hi e_u1 ?_
      refine zGo_s (pc' := 23) (st' := [.ref 1022]) dd77_22 rfl ?_
      refine cGF (e := 1028) dd77_23 rfl rfl rfl rfl rfl ?_
      refine zGo_s (pc' := 27) (st' := [.int x1, .ref 1028]) dd77_26 rfl ?_
      refine zGo_s (pc' := 28) (st' := [.int (0 : Int32), .int x1, .ref 1028]) dd77_27 rfl ?_
      obtain ⟨hi, h⟩ := ochk h
      obtain ⟨u2, e_u2, h⟩ := olet h
      refine cBS dd77_28 rfl rfl rfl hi e_u2 ?_
      refine zGo_s (pc' := 30) (st' := [.ref 1022]) dd77_29 rfl ?_
      refine cGF (e := 1029) dd77_30 rfl rfl rfl rfl rfl ?_
      refine zGo_s (pc' := 34) (st' := [.int x1, .ref 1029]) dd77_33 rfl ?_
      refine zGo_s (pc' := 35) (st' := [.int (0 : Int32), .int x1, .ref 1029]) dd77_34 rfl ?_
      obtain ⟨hi, h⟩ := ochk h
      obtain ⟨u3, e_u3, h⟩ := olet h
      refine cIS dd77_35 rfl rfl hi e_u3 ?_
      refine zGo_s (pc' := 39) (st' := []) (lv' := [(1, .int (x1 + (1 : Int32))), (0, .ref 1022)]) dd77_36 rfl ?_
      refine zGo_s (pc' := 10) (st' := []) dd77_39 rfl ?_
      exact zGo_lv (lv := [(0, .ref 1022), (1, .int (x1 + (1 : Int32)))]) ⟨by simp, by simp, by simp⟩ (ih _ _ _ h)
    · refine zIT dd77_12 rfl (kGeT hc) ?_
      obtain rfl := ore0 h
      exact zGo_ret dd77_42 rfl rfl
def f77 (n : Nat) (s : zσ) : Option zσ :=
    zlet (sF s 1023 0 16 (-1 : Int32)) fun u1 =>
    f77_10 n n (0 : Int32) u1
set_option maxRecDepth 20000 in
theorem f77_ok {n d : Nat} {s : zσ} {s2 : zσ} (hd : 2 ≤ d) (h : f77 n s = some s2) {w : zσ} {fz : Bool} {L : Nat} {xs : Nat → Int32} : zGo (zX fz L xs) d q_77 (0, [(0, .ref 1022)], [], zmk s w, 0, 0) (none, zmk s2 w, 0, 0) := by
  obtain ⟨d, rfl⟩ : ∃ d0, d = d0 + 1 := ⟨d - 1, by omega⟩
  unfold f77 at h
  refine zGo_s (pc' := 1) (st' := [.ref 1022]) dd77_0 rfl ?_
  refine cGF (e := 1023) dd77_1 rfl rfl rfl rfl rfl ?_
  refine zGo_s (pc' := 5) (st' := [.int (-1 : Int32), .ref 1023]) dd77_4 rfl ?_
  obtain ⟨u1, e_u1, h⟩ := olet h
  refine zCS0 (As := [.ref 1023, .int (-1 : Int32)]) (rest := []) (q' := q_22) dd77_5 rfl rfl rfl rfl rfl (g_fillc rfl rfl (by decide) e_u1) ?_
  refine zGo_s (pc' := 9) (st' := [.int (0 : Int32)]) dd77_8 rfl ?_
  refine zGo_s (pc' := 10) (st' := []) (lv' := [(1, .int (0 : Int32)), (0, .ref 1022)]) dd77_9 rfl ?_
  exact zGo_lv (lv := [(0, .ref 1022), (1, .int (0 : Int32))]) ⟨by simp, by simp, by simp⟩ (f77_10_ok hd _ _ _ _ h)
/-! PH$Diary.clear()V -/
theorem dd78_0 : decode cX1_clear 0 = .ok (.aload_n 0, 1) := by decide +kernel
theorem dd78_1 : decode cX1_clear 1 = .ok (.iconst 0, 1) := by decide +kernel
theorem dd78_2 : decode cX1_clear 2 = .ok (.putfield 18, 3) := by decide +kernel
theorem dd78_5 : decode cX1_clear 5 = .ok (.aload_n 0, 1) := by decide +kernel
theorem dd78_6 : decode cX1_clear 6 = .ok (.iconst 0, 1) := by decide +kernel
theorem dd78_7 : decode cX1_clear 7 = .ok (.putfield 22, 3) := by decide +kernel
theorem dd78_10 : decode cX1_clear 10 = .ok (.aload_n 0, 1) := by decide +kernel
theorem dd78_11 : decode cX1_clear 11 = .ok (.iconst 0, 1) := by decide +kernel
theorem dd78_12 : decode cX1_clear 12 = .ok (.putfield 28, 3) := by decide +kernel
theorem dd78_15 : decode cX1_clear 15 = .ok (.aload_n 0, 1) := by decide +kernel
theorem dd78_16 : decode cX1_clear 16 = .ok (.iconst 0, 1) := by decide +kernel
theorem dd78_17 : decode cX1_clear 17 = .ok (.putfield 31, 3) := by decide +kernel
theorem dd78_20 : decode cX1_clear 20 = .ok (.aload_n 0, 1) := by decide +kernel
theorem dd78_21 : decode cX1_clear 21 = .ok (.iconst 0, 1) := by decide +kernel
theorem dd78_22 : decode cX1_clear 22 = .ok (.putfield 34, 3) := by decide +kernel
theorem dd78_25 : decode cX1_clear 25 = .ok (.aload_n 0, 1) := by decide +kernel
theorem dd78_26 : decode cX1_clear 26 = .ok (.iconst 0, 1) := by decide +kernel
theorem dd78_27 : decode cX1_clear 27 = .ok (.putfield 37, 3) := by decide +kernel
theorem dd78_30 : decode cX1_clear 30 = .ok (.aload_n 0, 1) := by decide +kernel
theorem dd78_31 : decode cX1_clear 31 = .ok (.iconst 0, 1) := by decide +kernel
theorem dd78_32 : decode cX1_clear 32 = .ok (.putfield 40, 3) := by decide +kernel
theorem dd78_35 : decode cX1_clear 35 = .ok (.return_, 1) := by decide +kernel
def f78 (n : Nat) (s : zσ) : Option zσ :=
    zlet (sI s 1030 2 (0 : Int32)) fun u1 =>
    zlet (sI u1 1030 3 (0 : Int32)) fun u2 =>
    zlet (sI u2 1030 5 (0 : Int32)) fun u3 =>
    zlet (sI u3 1030 6 (0 : Int32)) fun u4 =>
    zlet (sI u4 1030 7 (0 : Int32)) fun u5 =>
    zlet (sI u5 1030 8 (0 : Int32)) fun u6 =>
    zlet (sI u6 1030 9 (0 : Int32)) fun u7 =>
    some u7
set_option maxRecDepth 20000 in
theorem f78_ok {n d : Nat} {s : zσ} {s2 : zσ} (hd : 0 ≤ d) (h : f78 n s = some s2) {w : zσ} {fz : Bool} {L : Nat} {xs : Nat → Int32} : zGo (zX fz L xs) d q_78 (0, [(0, .ref 1030)], [], zmk s w, 0, 0) (none, zmk s2 w, 0, 0) := by
  unfold f78 at h
  refine zGo_s (pc' := 1) (st' := [.ref 1030]) dd78_0 rfl ?_
  refine zGo_s (pc' := 2) (st' := [.int (0 : Int32), .ref 1030]) dd78_1 rfl ?_
  obtain ⟨u1, e_u1, h⟩ := olet h
  refine cPI dd78_2 rfl rfl rfl rfl rfl rfl e_u1 ?_
  refine zGo_s (pc' := 6) (st' := [.ref 1030]) dd78_5 rfl ?_
  refine zGo_s (pc' := 7) (st' := [.int (0 : Int32), .ref 1030]) dd78_6 rfl ?_
  obtain ⟨u2, e_u2, h⟩ := olet h
  refine cPI dd78_7 rfl rfl rfl rfl rfl rfl e_u2 ?_
  refine zGo_s (pc' := 11) (st' := [.ref 1030]) dd78_10 rfl ?_
  refine zGo_s (pc' := 12) (st' := [.int (0 : Int32), .ref 1030]) dd78_11 rfl ?_
  obtain ⟨u3, e_u3, h⟩ := olet h
  refine cPI dd78_12 rfl rfl rfl rfl rfl rfl e_u3 ?_
  refine zGo_s (pc' := 16) (st' := [.ref 1030]) dd78_15 rfl ?_
  refine zGo_s (pc' := 17) (st' := [.int (0 : Int32), .ref 1030]) dd78_16 rfl ?_
  obtain ⟨u4, e_u4, h⟩ := olet h
  refine cPI dd78_17 rfl rfl rfl rfl rfl rfl e_u4 ?_
  refine zGo_s (pc' := 21) (st' := [.ref 1030]) dd78_20 rfl ?_
  refine zGo_s (pc' := 22) (st' := [.int (0 : Int32), .ref 1030]) dd78_21 rfl ?_
  obtain ⟨u5, e_u5, h⟩ := olet h
  refine cPI dd78_22 rfl rfl rfl rfl rfl rfl e_u5 ?_
  refine zGo_s (pc' := 26) (st' := [.ref 1030]) dd78_25 rfl ?_
  refine zGo_s (pc' := 27) (st' := [.int (0 : Int32), .ref 1030]) dd78_26 rfl ?_
  obtain ⟨u6, e_u6, h⟩ := olet h
  refine cPI dd78_27 rfl rfl rfl rfl rfl rfl e_u6 ?_
  refine zGo_s (pc' := 31) (st' := [.ref 1030]) dd78_30 rfl ?_
  refine zGo_s (pc' := 32) (st' := [.int (0 : Int32), .ref 1030]) dd78_31 rfl ?_
  obtain ⟨u7, e_u7, h⟩ := olet h
  refine cPI dd78_32 rfl rfl rfl rfl rfl rfl e_u7 ?_
  obtain rfl := ore0 h
  exact zGo_ret dd78_35 rfl rfl
/-! PH$Task.clear()V -/
theorem dd79_0 : decode cX8_clear 0 = .ok (.aload_n 0, 1) := by decide +kernel
theorem dd79_1 : decode cX8_clear 1 = .ok (.iconst 0, 1) := by decide +kernel
theorem dd79_2 : decode cX8_clear 2 = .ok (.putfield 18, 3) := by decide +kernel
theorem dd79_5 : decode cX8_clear 5 = .ok (.aload_n 0, 1) := by decide +kernel
theorem dd79_6 : decode cX8_clear 6 = .ok (.iconst 0, 1) := by decide +kernel
theorem dd79_7 : decode cX8_clear 7 = .ok (.putfield 25, 3) := by decide +kernel
theorem dd79_10 : decode cX8_clear 10 = .ok (.aload_n 0, 1) := by decide +kernel
theorem dd79_11 : decode cX8_clear 11 = .ok (.iconst 0, 1) := by decide +kernel
theorem dd79_12 : decode cX8_clear 12 = .ok (.putfield 28, 3) := by decide +kernel
theorem dd79_15 : decode cX8_clear 15 = .ok (.aload_n 0, 1) := by decide +kernel
theorem dd79_16 : decode cX8_clear 16 = .ok (.iconst 0, 1) := by decide +kernel
theorem dd79_17 : decode cX8_clear 17 = .ok (.putfield 31, 3) := by decide +kernel
theorem dd79_20 : decode cX8_clear 20 = .ok (.aload_n 0, 1) := by decide +kernel
theorem dd79_21 : decode cX8_clear 21 = .ok (.iconst 0, 1) := by decide +kernel
theorem dd79_22 : decode cX8_clear 22 = .ok (.putfield 34, 3) := by decide +kernel
theorem dd79_25 : decode cX8_clear 25 = .ok (.aload_n 0, 1) := by decide +kernel
theorem dd79_26 : decode cX8_clear 26 = .ok (.iconst 0, 1) := by decide +kernel
theorem dd79_27 : decode cX8_clear 27 = .ok (.putfield 37, 3) := by decide +kernel
theorem dd79_30 : decode cX8_clear 30 = .ok (.aload_n 0, 1) := by decide +kernel
theorem dd79_31 : decode cX8_clear 31 = .ok (.iconst 0, 1) := by decide +kernel
theorem dd79_32 : decode cX8_clear 32 = .ok (.putfield 40, 3) := by decide +kernel
theorem dd79_35 : decode cX8_clear 35 = .ok (.return_, 1) := by decide +kernel
def f79 (n : Nat) (x0 : Nat) (s : zσ) : Option zσ :=
    zlet (sI s x0 3 (0 : Int32)) fun u1 =>
    zlet (sI u1 x0 5 (0 : Int32)) fun u2 =>
    zlet (sI u2 x0 6 (0 : Int32)) fun u3 =>
    zlet (sI u3 x0 7 (0 : Int32)) fun u4 =>
    zlet (sI u4 x0 8 (0 : Int32)) fun u5 =>
    zlet (sI u5 x0 9 (0 : Int32)) fun u6 =>
    zlet (sI u6 x0 10 (0 : Int32)) fun u7 =>
    some u7
set_option maxRecDepth 20000 in
theorem f79_ok {n d : Nat} {x0 : Nat} {s : zσ} {s2 : zσ} (hd : 0 ≤ d) (hx0 : zck 8 x0 = true) (h : f79 n x0 s = some s2) {w : zσ} {fz : Bool} {L : Nat} {xs : Nat → Int32} : zGo (zX fz L xs) d q_79 (0, [(0, .ref x0)], [], zmk s w, 0, 0) (none, zmk s2 w, 0, 0) := by
  unfold f79 at h
  refine zGo_s (pc' := 1) (st' := [.ref x0]) dd79_0 rfl ?_
  refine zGo_s (pc' := 2) (st' := [.int (0 : Int32), .ref x0]) dd79_1 rfl ?_
  obtain ⟨u1, e_u1, h⟩ := olet h
  refine cPI dd79_2 rfl (ck8_s hx0).1 (ck8_s hx0).2 rfl rfl rfl e_u1 ?_
  refine zGo_s (pc' := 6) (st' := [.ref x0]) dd79_5 rfl ?_
  refine zGo_s (pc' := 7) (st' := [.int (0 : Int32), .ref x0]) dd79_6 rfl ?_
  obtain ⟨u2, e_u2, h⟩ := olet h
  refine cPI dd79_7 rfl (ck8_s hx0).1 (ck8_s hx0).2 rfl rfl rfl e_u2 ?_
  refine zGo_s (pc' := 11) (st' := [.ref x0]) dd79_10 rfl ?_
  refine zGo_s (pc' := 12) (st' := [.int (0 : Int32), .ref x0]) dd79_11 rfl ?_
  obtain ⟨u3, e_u3, h⟩ := olet h
  refine cPI dd79_12 rfl (ck8_s hx0).1 (ck8_s hx0).2 rfl rfl rfl e_u3 ?_
  refine zGo_s (pc' := 16) (st' := [.ref x0]) dd79_15 rfl ?_
  refine zGo_s (pc' := 17) (st' := [.int (0 : Int32), .ref x0]) dd79_16 rfl ?_
  obtain ⟨u4, e_u4, h⟩ := olet h
  refine cPI dd79_17 rfl (ck8_s hx0).1 (ck8_s hx0).2 rfl rfl rfl e_u4 ?_
  refine zGo_s (pc' := 21) (st' := [.ref x0]) dd79_20 rfl ?_
  refine zGo_s (pc' := 22) (st' := [.int (0 : Int32), .ref x0]) dd79_21 rfl ?_
  obtain ⟨u5, e_u5, h⟩ := olet h
  refine cPI dd79_22 rfl (ck8_s hx0).1 (ck8_s hx0).2 rfl rfl rfl e_u5 ?_
  refine zGo_s (pc' := 26) (st' := [.ref x0]) dd79_25 rfl ?_
  refine zGo_s (pc' := 27) (st' := [.int (0 : Int32), .ref x0]) dd79_26 rfl ?_
  obtain ⟨u6, e_u6, h⟩ := olet h
  refine cPI dd79_27 rfl (ck8_s hx0).1 (ck8_s hx0).2 rfl rfl rfl e_u6 ?_
  refine zGo_s (pc' := 31) (st' := [.ref x0]) dd79_30 rfl ?_
  refine zGo_s (pc' := 32) (st' := [.int (0 : Int32), .ref x0]) dd79_31 rfl ?_
  obtain ⟨u7, e_u7, h⟩ := olet h
  refine cPI dd79_32 rfl (ck8_s hx0).1 (ck8_s hx0).2 rfl rfl rfl e_u7 ?_
  obtain rfl := ore0 h
  exact zGo_ret dd79_35 rfl rfl
/-! PH$Machine.awaken(LPH$Task;)V -/
theorem dd80_0 : decode cX3_awaken 0 = .ok (.aload_n 1, 1) := by decide +kernel
theorem dd80_1 : decode cX3_awaken 1 = .ok (.dup, 1) := by decide +kernel
theorem dd80_2 : decode cX3_awaken 2 = .ok (.getfield 345, 3) := by decide +kernel
theorem dd80_5 : decode cX3_awaken 5 = .ok (.iconst 1, 1) := by decide +kernel
theorem dd80_6 : decode cX3_awaken 6 = .ok (.iadd, 1) := by decide +kernel
theorem dd80_7 : decode cX3_awaken 7 = .ok (.putfield 345, 3) := by decide +kernel
theorem dd80_10 : decode cX3_awaken 10 = .ok (.aload_n 0, 1) := by decide +kernel
theorem dd80_11 : decode cX3_awaken 11 = .ok (.getfield 63, 3) := by decide +kernel
theorem dd80_14 : decode cX3_awaken 14 = .ok (.getfield 348, 3) := by decide +kernel
theorem dd80_17 : decode cX3_awaken 17 = .ok (.aload_n 0, 1) := by decide +kernel
theorem dd80_18 : decode cX3_awaken 18 = .ok (.getfield 55, 3) := by decide +kernel
theorem dd80_21 : decode cX3_awaken 21 = .ok (.getfield 353, 3) := by decide +kernel
theorem dd80_24 : decode cX3_awaken 24 = .ok (.aload_n 1, 1) := by decide +kernel
theorem dd80_25 : decode cX3_awaken 25 = .ok (.getfield 290, 3) := by decide +kernel
theorem dd80_28 : decode cX3_awaken 28 = .ok (.iaload, 1) := by decide +kernel
theorem dd80_29 : decode cX3_awaken 29 = .ok (.iaload, 1) := by decide +kernel
theorem dd80_30 : decode cX3_awaken 30 = .ok (.istore_n 2, 1) := by decide +kernel
theorem dd80_31 : decode cX3_awaken 31 = .ok (.iload_n 2, 1) := by decide +kernel
theorem dd80_32 : decode cX3_awaken 32 = .ok (.iconst (-1), 1) := by decide +kernel
theorem dd80_33 : decode cX3_awaken 33 = .ok (.if_icmp .ne 31, 3) := by decide +kernel
theorem dd80_36 : decode cX3_awaken 36 = .ok (.aload_n 1, 1) := by decide +kernel
theorem dd80_37 : decode cX3_awaken 37 = .ok (.dup, 1) := by decide +kernel
theorem dd80_38 : decode cX3_awaken 38 = .ok (.getfield 356, 3) := by decide +kernel
theorem dd80_41 : decode cX3_awaken 41 = .ok (.iconst 1, 1) := by decide +kernel
theorem dd80_42 : decode cX3_awaken 42 = .ok (.iadd, 1) := by decide +kernel
theorem dd80_43 : decode cX3_awaken 43 = .ok (.putfield 356, 3) := by decide +kernel
theorem dd80_46 : decode cX3_awaken 46 = .ok (.aload_n 0, 1) := by decide +kernel
theorem dd80_47 : decode cX3_awaken 47 = .ok (.getfield 34, 3) := by decide +kernel
theorem dd80_50 : decode cX3_awaken 50 = .ok (.getfield 163, 3) := by decide +kernel
theorem dd80_53 : decode cX3_awaken 53 = .ok (.iconst 2, 1) := by decide +kernel
theorem dd80_54 : decode cX3_awaken 54 = .ok (.aload_n 1, 1) := by decide +kernel
theorem dd80_55 : decode cX3_awaken 55 = .ok (.getfield 290, 3) := by decide +kernel
theorem dd80_58 : decode cX3_awaken 58 = .ok (.imul, 1) := by decide +kernel
theorem dd80_59 : decode cX3_awaken 59 = .ok (.iconst 1, 1) := by decide +kernel
theorem dd80_60 : decode cX3_awaken 60 = .ok (.iadd, 1) := by decide +kernel
theorem dd80_61 : decode cX3_awaken 61 = .ok (.iconst (-1), 1) := by decide +kernel
theorem dd80_62 : decode cX3_awaken 62 = .ok (.iastore, 1) := by decide +kernel
theorem dd80_63 : decode cX3_awaken 63 = .ok (.return_, 1) := by decide +kernel
theorem dd80_64 : decode cX3_awaken 64 = .ok (.aload_n 1, 1) := by decide +kernel
theorem dd80_65 : decode cX3_awaken 65 = .ok (.iconst 1, 1) := by decide +kernel
theorem dd80_66 : decode cX3_awaken 66 = .ok (.putfield 123, 3) := by decide +kernel
theorem dd80_69 : decode cX3_awaken 69 = .ok (.aload_n 1, 1) := by decide +kernel
theorem dd80_70 : decode cX3_awaken 70 = .ok (.aload_n 0, 1) := by decide +kernel
theorem dd80_71 : decode cX3_awaken 71 = .ok (.getfield 55, 3) := by decide +kernel
theorem dd80_74 : decode cX3_awaken 74 = .ok (.getfield 359, 3) := by decide +kernel
theorem dd80_77 : decode cX3_awaken 77 = .ok (.aload_n 1, 1) := by decide +kernel
theorem dd80_78 : decode cX3_awaken 78 = .ok (.getfield 290, 3) := by decide +kernel
theorem dd80_81 : decode cX3_awaken 81 = .ok (.iaload, 1) := by decide +kernel
theorem dd80_82 : decode cX3_awaken 82 = .ok (.putfield 177, 3) := by decide +kernel
theorem dd80_85 : decode cX3_awaken 85 = .ok (.aload_n 1, 1) := by decide +kernel
theorem dd80_86 : decode cX3_awaken 86 = .ok (.iconst 0, 1) := by decide +kernel
theorem dd80_87 : decode cX3_awaken 87 = .ok (.putfield 186, 3) := by decide +kernel
theorem dd80_90 : decode cX3_awaken 90 = .ok (.aload_n 1, 1) := by decide +kernel
theorem dd80_91 : decode cX3_awaken 91 = .ok (.getfield 183, 3) := by decide +kernel
theorem dd80_94 : decode cX3_awaken 94 = .ok (.iconst 0, 1) := by decide +kernel
theorem dd80_95 : decode cX3_awaken 95 = .ok (.iload_n 2, 1) := by decide +kernel
theorem dd80_96 : decode cX3_awaken 96 = .ok (.iastore, 1) := by decide +kernel
theorem dd80_97 : decode cX3_awaken 97 = .ok (.aload_n 1, 1) := by decide +kernel
theorem dd80_98 : decode cX3_awaken 98 = .ok (.aload_n 0, 1) := by decide +kernel
theorem dd80_99 : decode cX3_awaken 99 = .ok (.dup, 1) := by decide +kernel
theorem dd80_100 : decode cX3_awaken 100 = .ok (.getfield 81, 3) := by decide +kernel
theorem dd80_103 : decode cX3_awaken 103 = .ok (.iconst 1, 1) := by decide +kernel
theorem dd80_104 : decode cX3_awaken 104 = .ok (.iadd, 1) := by decide +kernel
theorem dd80_105 : decode cX3_awaken 105 = .ok (.dup_x1, 1) := by decide +kernel
theorem dd80_106 : decode cX3_awaken 106 = .ok (.putfield 81, 3) := by decide +kernel
theorem dd80_109 : decode cX3_awaken 109 = .ok (.putfield 180, 3) := by decide +kernel
theorem dd80_112 : decode cX3_awaken 112 = .ok (.return_, 1) := by decide +kernel
def f80 (n : Nat) (x1 : Nat) (s : zσ) : Option zσ :=
    zlet (sI s x1 7 ((s.1 x1 7) + (1 : Int32))) fun u1 =>
    zrd 0 (u1.2.2 1007 10) fun a2 =>
    zrd 9 (u1.2.2 1007 8) fun a3 =>
    if zin? (u1.1 x1 0) 8 = true then
    if zin? (u1.1 (a3 + 16) (nx (u1.1 x1 0))) 700 = true then
    zlet ((u1.1 (a2 + 3) (nx (u1.1 (a3 + 16) (nx (u1.1 x1 0)))))) fun v4 =>
    if v4 = (-1 : Int32) then
    zlet (sI u1 x1 8 ((u1.1 x1 8) + (1 : Int32))) fun u12 =>
    if zin? (((2 : Int32) * (u12.1 x1 0)) + (1 : Int32)) 16 = true then
    zlet (sI u12 1023 (nx (((2 : Int32) * (u12.1 x1 0)) + (1 : Int32))) (-1 : Int32)) fun u13 =>
    some u13
    else none
    else zlet (sI u1 x1 3 (1 : Int32)) fun u5 =>
    zrd 9 (u5.2.2 1007 8) fun a6 =>
    if zin? (u5.1 x1 0) 8 = true then
    zlet (sI u5 x1 4 (u5.1 (a6 + 14) (nx (u5.1 x1 0)))) fun u7 =>
    zlet (sI u7 x1 10 (0 : Int32)) fun u8 =>
    if zin? (0 : Int32) 9 = true then
    zlet (sI u8 (x1 + 1) (nx (0 : Int32)) v4) fun u9 =>
    zlet (sI u9 1007 15 ((u9.1 1007 15) + (1 : Int32))) fun u10 =>
    zlet (sI u10 x1 11 ((u9.1 1007 15) + (1 : Int32))) fun u11 =>
    some u11
    else none
    else none
    else none
    else none
set_option maxRecDepth 20000 in
theorem f80_ok {n d : Nat} {x1 : Nat} {s : zσ} {s2 : zσ} (hd : 0 ≤ d) (hx1 : zck 8 x1 = true) (h : f80 n x1 s = some s2) {w : zσ} {fz : Bool} {L : Nat} {xs : Nat → Int32} : zGo (zX fz L xs) d q_80 (0, [(0, .ref 1007), (1, .ref x1)], [], zmk s w, 0, 0) (none, zmk s2 w, 0, 0) := by
  unfold f80 at h
  refine zGo_s (pc' := 1) (st' := [.ref x1]) dd80_0 rfl ?_
  refine zGo_s (pc' := 2) (st' := [.ref x1, .ref x1]) dd80_1 rfl ?_
  refine cGI dd80_2 rfl (ck8_s hx1).1 (ck8_s hx1).2 rfl ?_
  refine zGo_s (pc' := 6) (st' := [.int (1 : Int32), .int (s.1 x1 7), .ref x1]) dd80_5 rfl ?_
  refine zGo_s (pc' := 7) (st' := [.int ((s.1 x1 7) + (1 : Int32)), .ref x1]) dd80_6 rfl ?_
  obtain ⟨u1, e_u1, h⟩ := olet h
  refine cPI dd80_7 rfl (ck8_s hx1).1 (ck8_s hx1).2 rfl rfl rfl e_u1 ?_
  refine zGo_s (pc' := 11) (st' := [.ref 1007]) dd80_10 rfl ?_
  obtain ⟨a2, e_a2, c_a2, h⟩ := ordd h
  refine cGR dd80_11 rfl rfl rfl rfl e_a2 ?_
  refine cGF (e := (a2 + 3)) dd80_14 rfl (ck0_s c_a2).1 (ck0_s c_a2).2 rfl (cf0_2 c_a2).1 ?_
  refine zGo_s (pc' := 18) (st' := [.ref 1007, .ref (a2 + 3)]) dd80_17 rfl ?_
  obtain ⟨a3, e_a3, c_a3, h⟩ := ordd h
  refine cGR dd80_18 rfl rfl rfl rfl e_a3 ?_
  refine cGF (e := (a3 + 16)) dd80_21 rfl (ck9_s c_a3).1 (ck9_s c_a3).2 rfl (cf9_6 c_a3).1 ?_
  refine zGo_s (pc' := 25) (st' := [.ref x1, .ref (a3 + 16), .ref (a2 + 3)]) dd80_24 rfl ?_
  refine cGI dd80_25 rfl (ck8_s hx1).1 (ck8_s hx1).2 rfl ?_
  obtain ⟨hi, h⟩ := ochk h
  refine cIA dd80_28 (cf9_6 c_a3).2.1 (cf9_6 c_a3).2.2 hi ?_
  obtain ⟨hi, h⟩ := ochk h
  refine cIA dd80_29 (cf0_2 c_a2).2.1 (cf0_2 c_a2).2.2 hi ?_
  obtain ⟨v4, e_v4, h⟩ := olet h
  refine zGo_is1 e_v4 dd80_30 (x' := (31, [(2, .int v4), (0, .ref 1007), (1, .ref x1)], [], _, _, _)) rfl ?_
  refine zGo_s (pc' := 32) (st' := [.int v4]) dd80_31 rfl ?_
  refine zGo_s (pc' := 33) (st' := [.int (-1 : Int32), .int v4]) dd80_32 rfl ?_
  rcases oite h with ⟨hc, h⟩ | ⟨hc, h⟩
  · refine zIF dd80_33 (kNeF hc) ?_
    refine zGo_s (pc' := 37) (st' := [.ref x1]) dd80_36 rfl ?_
    refine zGo_s (pc' := 38) (st' := [.ref x1, .ref x1]) dd80_37 rfl ?_
    refine cGI dd80_38 rfl (ck8_s hx1).1 (ck8_s hx1).2 rfl ?_
    refine zGo_s (pc' := 42) (st' := [.int (1 : Int32), .int (u1.1 x1 8), .ref x1]) dd80_41 rfl ?_
    refine zGo_s (pc' := 43) (st' := [.int ((u1.1 x1 8) + (1 : Int32)), .ref x1]) dd80_42 rfl ?_
    obtain ⟨u12, e_u12, h⟩ := olet h
    refine cPI dd80_43 rfl (ck8_s hx1).1 (ck8_s hx1).2 rfl rfl rfl e_u12 ?_
    refine zGo_s (pc' := 47) (st' := [.ref 1007]) dd80_46 rfl ?_
    refine cGF (e := 1022) dd80_47 rfl rfl rfl rfl rfl ?_
    refine cGF (e := 1023) dd80_50 rfl rfl rfl rfl rfl ?_
    refine zGo_s (pc' := 54) (st' := [.int (2 : Int32), .ref 1023]) dd80_53 rfl ?_
    refine zGo_s (pc' := 55) (st' := [.ref x1, .int (2 : Int32), .ref 1023]) dd80_54 rfl ?_
    refine cGI dd80_55 rfl (ck8_s hx1).1 (ck8_s hx1).2 rfl ?_
    refine zGo_s (pc' := 59) (st' := [.int ((2 : Int32) * (u12.1 x1 0)), .ref 1023]) dd80_58 rfl ?_
    refine zGo_s (pc' := 60) (st' := [.int (1 : Int32), .int ((2 : Int32) * (u12.1 x1 0)), .ref 1023]) dd80_59 rfl ?_
    refine zGo_s (pc' := 61) (st' := [.int (((2 : Int32) * (u12.1 x1 0)) + (1 : Int32)), .ref 1023]) dd80_60 rfl ?_
    refine zGo_s (pc' := 62) (st' := [.int (-1 : Int32), .int (((2 : Int32) * (u12.1 x1 0)) + (1 : Int32)), .ref 1023]) dd80_61 rfl ?_
    obtain ⟨hi, h⟩ := ochk h
    obtain ⟨u13, e_u13, h⟩ := olet h
    refine cIS dd80_62 rfl rfl hi e_u13 ?_
    obtain rfl := ore0 h
    exact zGo_ret dd80_63 rfl rfl
  · refine zIT dd80_33 rfl (kNeT hc) ?_
    refine zGo_s (pc' := 65) (st' := [.ref x1]) dd80_64 rfl ?_
    refine zGo_s (pc' := 66) (st' := [.int (1 : Int32), .ref x1]) dd80_65 rfl ?_
    obtain ⟨u5, e_u5, h⟩ := olet h
    refine cPI dd80_66 rfl (ck8_s hx1).1 (ck8_s hx1).2 rfl rfl rfl e_u5 ?_
    refine zGo_s (pc' := 70) (st' := [.ref x1]) dd80_69 rfl ?_
    refine zGo_s (pc' := 71) (st' := [.ref 1007, .ref x1]) dd80_70 rfl ?_
    obtain ⟨a6, e_a6, c_a6, h⟩ := ordd h
    refine cGR dd80_71 rfl rfl rfl rfl e_a6 ?_
    refine cGF (e := (a6 + 14)) dd80_74 rfl (ck9_s c_a6).1 (ck9_s c_a6).2 rfl (cf9_4 c_a6).1 ?_
    refine zGo_s (pc' := 78) (st' := [.ref x1, .ref (a6 + 14), .ref x1]) dd80_77 rfl ?_
    refine cGI dd80_78 rfl (ck8_s hx1).1 (ck8_s hx1).2 rfl ?_
    obtain ⟨hi, h⟩ := ochk h
    refine cIA dd80_81 (cf9_4 c_a6).2.1 (cf9_4 c_a6).2.2 hi ?_
    obtain ⟨u7, e_u7, h⟩ := olet h
    refine cPI dd80_82 rfl (ck8_s hx1).1 (ck8_s hx1).2 rfl rfl rfl e_u7 ?_
    refine zGo_s (pc' := 86) (st' := [.ref x1]) dd80_85 rfl ?_
    refine zGo_s (pc' := 87) (st' := [.int (0 : Int32), .ref x1]) dd80_86 rfl ?_
    obtain ⟨u8, e_u8, h⟩ := olet h
    refine cPI dd80_87 rfl (ck8_s hx1).1 (ck8_s hx1).2 rfl rfl rfl e_u8 ?_
    refine zGo_s (pc' := 91) (st' := [.ref x1]) dd80_90 rfl ?_
    refine cGF (e := (x1 + 1)) dd80_91 rfl (ck8_s hx1).1 (ck8_s hx1).2 rfl (cf8_1 hx1).1 ?_
    refine zGo_s (pc' := 95) (st' := [.int (0 : Int32), .ref (x1 + 1)]) dd80_94 rfl ?_
    refine zGo_s (pc' := 96) (st' := [.int v4, .int (0 : Int32), .ref (x1 + 1)]) dd80_95 rfl ?_
    obtain ⟨hi, h⟩ := ochk h
    obtain ⟨u9, e_u9, h⟩ := olet h
    refine cIS dd80_96 (cf8_1 hx1).2.1 (cf8_1 hx1).2.2 hi e_u9 ?_
    refine zGo_s (pc' := 98) (st' := [.ref x1]) dd80_97 rfl ?_
    refine zGo_s (pc' := 99) (st' := [.ref 1007, .ref x1]) dd80_98 rfl ?_
    refine zGo_s (pc' := 100) (st' := [.ref 1007, .ref 1007, .ref x1]) dd80_99 rfl ?_
    refine cGI dd80_100 rfl rfl rfl rfl ?_
    refine zGo_s (pc' := 104) (st' := [.int (1 : Int32), .int (u9.1 1007 15), .ref 1007, .ref x1]) dd80_103 rfl ?_
    refine zGo_s (pc' := 105) (st' := [.int ((u9.1 1007 15) + (1 : Int32)), .ref 1007, .ref x1]) dd80_104 rfl ?_
    refine zGo_s (pc' := 106) (st' := [.int ((u9.1 1007 15) + (1 : Int32)), .ref 1007, .int ((u9.1 1007 15) + (1 : Int32)), .ref x1]) dd80_105 rfl ?_
    obtain ⟨u10, e_u10, h⟩ := olet h
    refine cPI dd80_106 rfl rfl rfl rfl rfl rfl e_u10 ?_
    obtain ⟨u11, e_u11, h⟩ := olet h
    refine cPI dd80_109 rfl (ck8_s hx1).1 (ck8_s hx1).2 rfl rfl rfl e_u11 ?_
    obtain rfl := ore0 h
    exact zGo_ret dd80_112 rfl rfl
