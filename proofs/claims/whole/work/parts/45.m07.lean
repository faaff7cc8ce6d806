/-! PH$Machine.combine(IJJ)J -/
theorem dd96_0 : decode cX3_combine 0 = .ok (.iload_n 0, 1) := by decide +kernel
theorem dd96_1 : decode cX3_combine 1 = .ok (.tableswitch 179 37 61 #[141, 179, 179, 179, 179, 123, 115, 179, 119, 179, 127, 179, 179, 179, 179, 179, 179, 179, 179, 179, 179, 179, 179, 167, 155], 115) := by decide +kernel
theorem dd96_116 : decode cX3_combine 116 = .ok (.lload_n 1, 1) := by decide +kernel
theorem dd96_117 : decode cX3_combine 117 = .ok (.lload_n 3, 1) := by decide +kernel
theorem dd96_118 : decode cX3_combine 118 = .ok (.ladd, 1) := by decide +kernel
theorem dd96_119 : decode cX3_combine 119 = .ok (.lreturn, 1) := by decide +kernel
theorem dd96_120 : decode cX3_combine 120 = .ok (.lload_n 1, 1) := by decide +kernel
theorem dd96_121 : decode cX3_combine 121 = .ok (.lload_n 3, 1) := by decide +kernel
theorem dd96_122 : decode cX3_combine 122 = .ok (.lsub, 1) := by decide +kernel
theorem dd96_123 : decode cX3_combine 123 = .ok (.lreturn, 1) := by decide +kernel
theorem dd96_124 : decode cX3_combine 124 = .ok (.lload_n 1, 1) := by decide +kernel
theorem dd96_125 : decode cX3_combine 125 = .ok (.lload_n 3, 1) := by decide +kernel
theorem dd96_126 : decode cX3_combine 126 = .ok (.lmul, 1) := by decide +kernel
theorem dd96_127 : decode cX3_combine 127 = .ok (.lreturn, 1) := by decide +kernel
theorem dd96_128 : decode cX3_combine 128 = .ok (.lload_n 3, 1) := by decide +kernel
theorem dd96_129 : decode cX3_combine 129 = .ok (.lconst 0, 1) := by decide +kernel
theorem dd96_130 : decode cX3_combine 130 = .ok (.lcmp, 1) := by decide +kernel
theorem dd96_131 : decode cX3_combine 131 = .ok (.ifCond .ne 7, 3) := by decide +kernel
theorem dd96_134 : decode cX3_combine 134 = .ok (.lconst 0, 1) := by decide +kernel
theorem dd96_135 : decode cX3_combine 135 = .ok (.goto 6, 3) := by decide +kernel
theorem dd96_138 : decode cX3_combine 138 = .ok (.lload_n 1, 1) := by decide +kernel
theorem dd96_139 : decode cX3_combine 139 = .ok (.lload_n 3, 1) := by decide +kernel
theorem dd96_140 : decode cX3_combine 140 = .ok (.ldiv, 1) := by decide +kernel
theorem dd96_141 : decode cX3_combine 141 = .ok (.lreturn, 1) := by decide +kernel
theorem dd96_142 : decode cX3_combine 142 = .ok (.lload_n 3, 1) := by decide +kernel
theorem dd96_143 : decode cX3_combine 143 = .ok (.lconst 0, 1) := by decide +kernel
theorem dd96_144 : decode cX3_combine 144 = .ok (.lcmp, 1) := by decide +kernel
theorem dd96_145 : decode cX3_combine 145 = .ok (.ifCond .ne 7, 3) := by decide +kernel
theorem dd96_148 : decode cX3_combine 148 = .ok (.lconst 0, 1) := by decide +kernel
theorem dd96_149 : decode cX3_combine 149 = .ok (.goto 6, 3) := by decide +kernel
theorem dd96_152 : decode cX3_combine 152 = .ok (.lload_n 1, 1) := by decide +kernel
theorem dd96_153 : decode cX3_combine 153 = .ok (.lload_n 3, 1) := by decide +kernel
theorem dd96_154 : decode cX3_combine 154 = .ok (.lrem, 1) := by decide +kernel
theorem dd96_155 : decode cX3_combine 155 = .ok (.lreturn, 1) := by decide +kernel
theorem dd96_156 : decode cX3_combine 156 = .ok (.lload_n 1, 1) := by decide +kernel
theorem dd96_157 : decode cX3_combine 157 = .ok (.lload_n 3, 1) := by decide +kernel
theorem dd96_158 : decode cX3_combine 158 = .ok (.lcmp, 1) := by decide +kernel
theorem dd96_159 : decode cX3_combine 159 = .ok (.ifCond .ne 7, 3) := by decide +kernel
theorem dd96_162 : decode cX3_combine 162 = .ok (.lconst 1, 1) := by decide +kernel
theorem dd96_163 : decode cX3_combine 163 = .ok (.goto 4, 3) := by decide +kernel
theorem dd96_166 : decode cX3_combine 166 = .ok (.lconst 0, 1) := by decide +kernel
theorem dd96_167 : decode cX3_combine 167 = .ok (.lreturn, 1) := by decide +kernel
theorem dd96_168 : decode cX3_combine 168 = .ok (.lload_n 1, 1) := by decide +kernel
theorem dd96_169 : decode cX3_combine 169 = .ok (.lload_n 3, 1) := by decide +kernel
theorem dd96_170 : decode cX3_combine 170 = .ok (.lcmp, 1) := by decide +kernel
theorem dd96_171 : decode cX3_combine 171 = .ok (.ifCond .ge 7, 3) := by decide +kernel
theorem dd96_174 : decode cX3_combine 174 = .ok (.lconst 1, 1) := by decide +kernel
theorem dd96_175 : decode cX3_combine 175 = .ok (.goto 4, 3) := by decide +kernel
theorem dd96_178 : decode cX3_combine 178 = .ok (.lconst 0, 1) := by decide +kernel
theorem dd96_179 : decode cX3_combine 179 = .ok (.lreturn, 1) := by decide +kernel
theorem dd96_180 : decode cX3_combine 180 = .ok (.lload_n 1, 1) := by decide +kernel
theorem dd96_181 : decode cX3_combine 181 = .ok (.lload_n 3, 1) := by decide +kernel
theorem dd96_182 : decode cX3_combine 182 = .ok (.lcmp, 1) := by decide +kernel
theorem dd96_183 : decode cX3_combine 183 = .ok (.ifCond .le 7, 3) := by decide +kernel
theorem dd96_186 : decode cX3_combine 186 = .ok (.lconst 1, 1) := by decide +kernel
theorem dd96_187 : decode cX3_combine 187 = .ok (.goto 4, 3) := by decide +kernel
theorem dd96_190 : decode cX3_combine 190 = .ok (.lconst 0, 1) := by decide +kernel
theorem dd96_191 : decode cX3_combine 191 = .ok (.lreturn, 1) := by decide +kernel
def f96_180 (n : Nat) (x1 : Int64) (x3 : Int64) (s : zσ) : Option (Int64 × zσ) :=
    if x3 < x1 then
    some ((1 : Int64), s)
    else some ((0 : Int64), s)
set_option maxRecDepth 20000 in
theorem f96_180_ok {n d : Nat} {x1 : Int64} {x3 : Int64} {s : zσ} {v : Int64} {s2 : zσ} (hd : 0 ≤ d) (h : f96_180 n x1 x3 s = some (v, s2)) {w : zσ} {fz : Bool} {L : Nat} {xs : Nat → Int32} : zGo (zX fz L xs) d q_96 (180, [(1, .long x1), (3, .long x3)], [], zmk s w, 0, 0) (some (.long v), zmk s2 w, 0, 0) := by
  unfold f96_180 at h
  refine zGo_s (pc' := 181) (st' := [.long x1]) dd96_180 rfl ?_
  refine zGo_s (pc' := 182) (st' := [.long x3, .long x1]) dd96_181 rfl ?_
  refine zGo_s (pc' := 183) (st' := [.int (lg_cmp x1 x3)]) dd96_182 rfl ?_
  rcases oite h with ⟨hc, h⟩ | ⟨hc, h⟩
  · refine zUF dd96_183 (kcLeF hc) ?_
    refine zGo_s (pc' := 187) (st' := [.long (1 : Int64)]) dd96_186 rfl ?_
    refine zGo_s (pc' := 191) (st' := [.long (1 : Int64)]) dd96_187 rfl ?_
    obtain ⟨rfl, rfl⟩ := oret h
    exact zGo_ret dd96_191 rfl rfl
  · refine zUT dd96_183 rfl (kcLeT hc) ?_
    refine zGo_s (pc' := 191) (st' := [.long (0 : Int64)]) dd96_190 rfl ?_
    obtain ⟨rfl, rfl⟩ := oret h
    exact zGo_ret dd96_191 rfl rfl
def f96 (n : Nat) (x0 : Int32) (x1 : Int64) (x3 : Int64) (s : zσ) : Option (Int64 × zσ) :=
    if x0 = (37 : Int32) then
    if x3 = (0 : Int64) then
    some ((0 : Int64), s)
    else if ¬ x3 = 0 then
    some ((x1 - x1 / x3 * x3), s)
    else none
    else if x0 = (42 : Int32) then
    some ((x1 * x3), s)
    else if x0 = (43 : Int32) then
    some ((x1 + x3), s)
    else if x0 = (45 : Int32) then
    some ((x1 - x3), s)
    else if x0 = (47 : Int32) then
    if x3 = (0 : Int64) then
    some ((0 : Int64), s)
    else if ¬ x3 = 0 then
    some ((x1 / x3), s)
    else none
    else if x0 = (60 : Int32) then
    if x1 < x3 then
    some ((1 : Int64), s)
    else some ((0 : Int64), s)
    else if x0 = (61 : Int32) then
    if x1 = x3 then
    some ((1 : Int64), s)
    else some ((0 : Int64), s)
    else f96_180 n x1 x3 s
set_option maxRecDepth 20000 in
theorem f96_ok {n d : Nat} {x0 : Int32} {x1 : Int64} {x3 : Int64} {s : zσ} {v : Int64} {s2 : zσ} (hd : 0 ≤ d) (h : f96 n x0 x1 x3 s = some (v, s2)) {w : zσ} {fz : Bool} {L : Nat} {xs : Nat → Int32} : zGo (zX fz L xs) d q_96 (0, [(0, .int x0), (1, .long x1), (3, .long x3)], [], zmk s w, 0, 0) (some (.long v), zmk s2 w, 0, 0) := by
  unfold f96 at h
  refine zGo_s (pc' := 1) (st' := [.int x0]) dd96_0 rfl ?_
  rcases oite h with ⟨hc, h⟩ | ⟨hn0, h⟩
  · refine zGo_sw dd96_1 (o := 141) (by rw [hc]; decide +kernel) rfl ?_
    refine zGo_s (pc' := 143) (st' := [.long x3]) dd96_142 rfl ?_
    refine zGo_s (pc' := 144) (st' := [.long (0 : Int64), .long x3]) dd96_143 rfl ?_
    refine zGo_s (pc' := 145) (st' := [.int (lg_cmp x3 (0 : Int64))]) dd96_144 rfl ?_
    rcases oite h with ⟨hc, h⟩ | ⟨hc, h⟩
    · refine zUF dd96_145 (kcNeF hc) ?_
      refine zGo_s (pc' := 149) (st' := [.long (0 : Int64)]) dd96_148 rfl ?_
      refine zGo_s (pc' := 155) (st' := [.long (0 : Int64)]) dd96_149 rfl ?_
      obtain ⟨rfl, rfl⟩ := oret h
      exact zGo_ret dd96_155 rfl rfl
    · refine zUT dd96_145 rfl (kcNeT hc) ?_
      refine zGo_s (pc' := 153) (st' := [.long x1]) dd96_152 rfl ?_
      refine zGo_s (pc' := 154) (st' := [.long x3, .long x1]) dd96_153 rfl ?_
      obtain ⟨hc, h⟩ := ochk h
      refine zGo_ldr dd96_154 hc ?_
      obtain ⟨rfl, rfl⟩ := oret h
      exact zGo_ret dd96_155 rfl rfl
  rcases oite h with ⟨hc, h⟩ | ⟨hn1, h⟩
  · refine zGo_sw dd96_1 (o := 123) (by rw [hc]; decide +kernel) rfl ?_
    refine zGo_s (pc' := 125) (st' := [.long x1]) dd96_124 rfl ?_
    refine zGo_s (pc' := 126) (st' := [.long x3, .long x1]) dd96_125 rfl ?_
    refine zGo_s (pc' := 127) (st' := [.long (x1 * x3)]) dd96_126 rfl ?_
    obtain ⟨rfl, rfl⟩ := oret h
    exact zGo_ret dd96_127 rfl rfl
  rcases oite h with ⟨hc, h⟩ | ⟨hn2, h⟩
  · refine zGo_sw dd96_1 (o := 115) (by rw [hc]; decide +kernel) rfl ?_
    refine zGo_s (pc' := 117) (st' := [.long x1]) dd96_116 rfl ?_
    refine zGo_s (pc' := 118) (st' := [.long x3, .long x1]) dd96_117 rfl ?_
    refine zGo_s (pc' := 119) (st' := [.long (x1 + x3)]) dd96_118 rfl ?_
    obtain ⟨rfl, rfl⟩ := oret h
    exact zGo_ret dd96_119 rfl rfl
  rcases oite h with ⟨hc, h⟩ | ⟨hn3, h⟩
  · refine zGo_sw dd96_1 (o := 119) (by rw [hc]; decide +kernel) rfl ?_
    refine zGo_s (pc' := 121) (st' := [.long x1]) dd96_120 rfl ?_
    refine zGo_s (pc' := 122) (st' := [.long x3, .long x1]) dd96_121 rfl ?_
    refine zGo_s (pc' := 123) (st' := [.long (x1 - x3)]) dd96_122 rfl ?_
    obtain ⟨rfl, rfl⟩ := oret h
    exact zGo_ret dd96_123 rfl rfl
  rcases oite h with ⟨hc, h⟩ | ⟨hn4, h⟩
  · refine zGo_sw dd96_1 (o := 127) (by rw [hc]; decide +kernel) rfl ?_
    refine zGo_s (pc' := 129) (st' := [.long x3]) dd96_128 rfl ?_
    refine zGo_s (pc' := 130) (st' := [.long (0 : Int64), .long x3]) dd96_129 rfl ?_
    refine zGo_s (pc' := 131) (st' := [.int (lg_cmp x3 (0 : Int64))]) dd96_130 rfl ?_
    rcases oite h with ⟨hc, h⟩ | ⟨hc, h⟩
    · refine zUF dd96_131 (kcNeF hc) ?_
      refine zGo_s (pc' := 135) (st' := [.long (0 : Int64)]) dd96_134 rfl ?_
      refine zGo_s (pc' := 141) (st' := [.long (0 : Int64)]) dd96_135 rfl ?_
      obtain ⟨rfl, rfl⟩ := oret h
      exact zGo_ret dd96_141 rfl rfl
    · refine zUT dd96_131 rfl (kcNeT hc) ?_
      refine zGo_s (pc' := 139) (st' := [.long x1]) dd96_138 rfl ?_
      refine zGo_s (pc' := 140) (st' := [.long x3, .long x1]) dd96_139 rfl ?_
      obtain ⟨hc, h⟩ := ochk h
      refine zGo_ldd dd96_140 hc ?_
      obtain ⟨rfl, rfl⟩ := oret h
      exact zGo_ret dd96_141 rfl rfl
  rcases oite h with ⟨hc, h⟩ | ⟨hn5, h⟩
  · refine zGo_sw dd96_1 (o := 167) (by rw [hc]; decide +kernel) rfl ?_
    refine zGo_s (pc' := 169) (st' := [.long x1]) dd96_168 rfl ?_
    refine zGo_s (pc' := 170) (st' := [.long x3, .long x1]) dd96_169 rfl ?_
    refine zGo_s (pc' := 171) (st' := [.int (lg_cmp x1 x3)]) dd96_170 rfl ?_
    rcases oite h with ⟨hc, h⟩ | ⟨hc, h⟩
    · refine zUF dd96_171 (kcGeF hc) ?_
      refine zGo_s (pc' := 175) (st' := [.long (1 : Int64)]) dd96_174 rfl ?_
      refine zGo_s (pc' := 179) (st' := [.long (1 : Int64)]) dd96_175 rfl ?_
      obtain ⟨rfl, rfl⟩ := oret h
      exact zGo_ret dd96_179 rfl rfl
    · refine zUT dd96_171 rfl (kcGeT hc) ?_
      refine zGo_s (pc' := 179) (st' := [.long (0 : Int64)]) dd96_178 rfl ?_
      obtain ⟨rfl, rfl⟩ := oret h
      exact zGo_ret dd96_179 rfl rfl
  rcases oite h with ⟨hc, h⟩ | ⟨hn6, h⟩
  · refine zGo_sw dd96_1 (o := 155) (by rw [hc]; decide +kernel) rfl ?_
    refine zGo_s (pc' := 157) (st' := [.long x1]) dd96_156 rfl ?_
    refine zGo_s (pc' := 158) (st' := [.long x3, .long x1]) dd96_157 rfl ?_
    refine zGo_s (pc' := 159) (st' := [.int (lg_cmp x1 x3)]) dd96_158 rfl ?_
    rcases oite h with ⟨hc, h⟩ | ⟨hc, h⟩
    · refine zUF dd96_159 (kcNeF hc) ?_
      refine zGo_s (pc' := 163) (st' := [.long (1 : Int64)]) dd96_162 rfl ?_
      refine zGo_s (pc' := 167) (st' := [.long (1 : Int64)]) dd96_163 rfl ?_
      obtain ⟨rfl, rfl⟩ := oret h
      exact zGo_ret dd96_167 rfl rfl
    · refine zUT dd96_159 rfl (kcNeT hc) ?_
      refine zGo_s (pc' := 167) (st' := [.long (0 : Int64)]) dd96_166 rfl ?_
      obtain ⟨rfl, rfl⟩ := oret h
      exact zGo_ret dd96_167 rfl rfl
  refine zGo_sw dd96_1 (o := 179) (zto_d (by decide) (by decide) fun k hk => ?_) rfl ?_
  · have hk2 : k = 0 ∨ k = 1 ∨ k = 2 ∨ k = 3 ∨ k = 4 ∨ k = 5 ∨ k = 6 ∨ k = 7 ∨ k = 8 ∨ k = 9 ∨ k = 10 ∨ k = 11 ∨ k = 12 ∨ k = 13 ∨ k = 14 ∨ k = 15 ∨ k = 16 ∨ k = 17 ∨ k = 18 ∨ k = 19 ∨ k = 20 ∨ k = 21 ∨ k = 22 ∨ k = 23 ∨ k = 24 := by omega
    rcases hk2 with rfl | rfl | rfl | rfl | rfl | rfl | rfl | rfl | rfl | rfl | rfl | rfl | rfl | rfl | rfl | rfl | rfl | rfl | rfl | rfl | rfl | rfl | rfl | rfl | rfl
    · exact Or.inr hn0
    · exact Or.inl rfl
    · exact Or.inl rfl
    · exact Or.inl rfl
    · exact Or.inl rfl
    · exact Or.inr hn1
    · exact Or.inr hn2
    · exact Or.inl rfl
    · exact Or.inr hn3
    · exact Or.inl rfl
    · exact Or.inr hn4
    · exact Or.inl rfl
    · exact Or.inl rfl
    · exact Or.inl rfl
    · exact Or.inl rfl
    · exact Or.inl rfl
    · exact Or.inl rfl
    · exact Or.inl rfl
    · exact Or.inl rfl
    · exact Or.inl rfl
    · exact Or.inl rfl
    · exact Or.inl rfl
    · exact Or.inl rfl
    · exact Or.inr hn5
    · exact Or.inr hn6
  exact zGo_lv (lv := [(1, .long x1), (3, .long x3)]) ⟨by simp, by simp, by simp⟩ (f96_180_ok hd h)
/-! PH$Machine.workNode(LPH$Task;II)I -/
theorem dd91_0 : decode cX3_workNode 0 = .ok (.lconst 0, 1) := by decide +kernel
theorem dd91_1 : decode cX3_workNode 1 = .ok (.lstore 4, 2) := by decide +kernel
theorem dd91_3 : decode cX3_workNode 3 = .ok (.iload_n 2, 1) := by decide +kernel
theorem dd91_4 : decode cX3_workNode 4 = .ok (.lookupswitch 216 #[(1, 75), (2, 68), (5, 205), (91, 163), (142, 141), (143, 116), (144, 126)], 68) := by decide +kernel
theorem dd91_72 : decode cX3_workNode 72 = .ok (.iload_n 3, 1) := by decide +kernel
theorem dd91_73 : decode cX3_workNode 73 = .ok (.i2l, 1) := by decide +kernel
theorem dd91_74 : decode cX3_workNode 74 = .ok (.lstore 4, 2) := by decide +kernel
theorem dd91_76 : decode cX3_workNode 76 = .ok (.goto 189, 3) := by decide +kernel
theorem dd91_79 : decode cX3_workNode 79 = .ok (.iload_n 3, 1) := by decide +kernel
theorem dd91_80 : decode cX3_workNode 80 = .ok (.bipush 8, 2) := by decide +kernel
theorem dd91_82 : decode cX3_workNode 82 = .ok (.if_icmp .ge 16, 3) := by decide +kernel
theorem dd91_85 : decode cX3_workNode 85 = .ok (.aload_n 0, 1) := by decide +kernel
theorem dd91_86 : decode cX3_workNode 86 = .ok (.getfield 20, 3) := by decide +kernel
theorem dd91_89 : decode cX3_workNode 89 = .ok (.getfield 228, 3) := by decide +kernel
theorem dd91_92 : decode cX3_workNode 92 = .ok (.iload_n 3, 1) := by decide +kernel
theorem dd91_93 : decode cX3_workNode 93 = .ok (.iaload, 1) := by decide +kernel
theorem dd91_94 : decode cX3_workNode 94 = .ok (.i2l, 1) := by decide +kernel
theorem dd91_95 : decode cX3_workNode 95 = .ok (.goto 20, 3) := by decide +kernel
theorem dd91_98 : decode cX3_workNode 98 = .ok (.aload_n 1, 1) := by decide +kernel
theorem dd91_99 : decode cX3_workNode 99 = .ok (.getfield 231, 3) := by decide +kernel
theorem dd91_102 : decode cX3_workNode 102 = .ok (.iconst 3, 1) := by decide +kernel
theorem dd91_103 : decode cX3_workNode 103 = .ok (.aload_n 1, 1) := by decide +kernel
theorem dd91_104 : decode cX3_workNode 104 = .ok (.getfield 186, 3) := by decide +kernel
theorem dd91_107 : decode cX3_workNode 107 = .ok (.imul, 1) := by decide +kernel
theorem dd91_108 : decode cX3_workNode 108 = .ok (.iload_n 3, 1) := by decide +kernel
theorem dd91_109 : decode cX3_workNode 109 = .ok (.iadd, 1) := by decide +kernel
theorem dd91_110 : decode cX3_workNode 110 = .ok (.bipush 8, 2) := by decide +kernel
theorem dd91_112 : decode cX3_workNode 112 = .ok (.isub, 1) := by decide +kernel
theorem dd91_113 : decode cX3_workNode 113 = .ok (.iaload, 1) := by decide +kernel
theorem dd91_114 : decode cX3_workNode 114 = .ok (.i2l, 1) := by decide +kernel
theorem dd91_115 : decode cX3_workNode 115 = .ok (.lstore 4, 2) := by decide +kernel
theorem dd91_117 : decode cX3_workNode 117 = .ok (.goto 148, 3) := by decide +kernel
theorem dd91_120 : decode cX3_workNode 120 = .ok (.aload_n 0, 1) := by decide +kernel
theorem dd91_121 : decode cX3_workNode 121 = .ok (.getfield 78, 3) := by decide +kernel
theorem dd91_124 : decode cX3_workNode 124 = .ok (.i2l, 1) := by decide +kernel
theorem dd91_125 : decode cX3_workNode 125 = .ok (.lstore 4, 2) := by decide +kernel
theorem dd91_127 : decode cX3_workNode 127 = .ok (.goto 138, 3) := by decide +kernel
theorem dd91_130 : decode cX3_workNode 130 = .ok (.aload_n 0, 1) := by decide +kernel
theorem dd91_131 : decode cX3_workNode 131 = .ok (.getfield 11, 3) := by decide +kernel
theorem dd91_134 : decode cX3_workNode 134 = .ok (.iload_n 3, 1) := by decide +kernel
theorem dd91_135 : decode cX3_workNode 135 = .ok (.aaload, 1) := by decide +kernel
theorem dd91_136 : decode cX3_workNode 136 = .ok (.getfield 123, 3) := by decide +kernel
theorem dd91_139 : decode cX3_workNode 139 = .ok (.i2l, 1) := by decide +kernel
theorem dd91_140 : decode cX3_workNode 140 = .ok (.lstore 4, 2) := by decide +kernel
theorem dd91_142 : decode cX3_workNode 142 = .ok (.goto 123, 3) := by decide +kernel
theorem dd91_145 : decode cX3_workNode 145 = .ok (.aload_n 0, 1) := by decide +kernel
theorem dd91_146 : decode cX3_workNode 146 = .ok (.getfield 20, 3) := by decide +kernel
theorem dd91_149 : decode cX3_workNode 149 = .ok (.iload_n 3, 1) := by decide +kernel
theorem dd91_150 : decode cX3_workNode 150 = .ok (.invokevirtual 234, 3) := by decide +kernel
theorem dd91_153 : decode cX3_workNode 153 = .ok (.i2l, 1) := by decide +kernel
theorem dd91_154 : decode cX3_workNode 154 = .ok (.lstore 4, 2) := by decide +kernel
theorem dd91_156 : decode cX3_workNode 156 = .ok (.lload 4, 2) := by decide +kernel
theorem dd91_158 : decode cX3_workNode 158 = .ok (.ldc2_w 237, 3) := by decide +kernel
theorem dd91_161 : decode cX3_workNode 161 = .ok (.lcmp, 1) := by decide +kernel
theorem dd91_162 : decode cX3_workNode 162 = .ok (.ifCond .ne 103, 3) := by decide +kernel
theorem dd91_165 : decode cX3_workNode 165 = .ok (.iconst 1, 1) := by decide +kernel
theorem dd91_166 : decode cX3_workNode 166 = .ok (.ireturn, 1) := by decide +kernel
theorem dd91_167 : decode cX3_workNode 167 = .ok (.aload_n 0, 1) := by decide +kernel
theorem dd91_168 : decode cX3_workNode 168 = .ok (.invokevirtual 239, 3) := by decide +kernel
theorem dd91_171 : decode cX3_workNode 171 = .ok (.istore 6, 2) := by decide +kernel
theorem dd91_173 : decode cX3_workNode 173 = .ok (.aload_n 0, 1) := by decide +kernel
theorem dd91_174 : decode cX3_workNode 174 = .ok (.getfield 20, 3) := by decide +kernel
theorem dd91_177 : decode cX3_workNode 177 = .ok (.iload_n 3, 1) := by decide +kernel
theorem dd91_178 : decode cX3_workNode 178 = .ok (.iload 6, 2) := by decide +kernel
theorem dd91_180 : decode cX3_workNode 180 = .ok (.invokevirtual 242, 3) := by decide +kernel
theorem dd91_183 : decode cX3_workNode 183 = .ok (.istore 7, 2) := by decide +kernel
theorem dd91_185 : decode cX3_workNode 185 = .ok (.iload 7, 2) := by decide +kernel
theorem dd91_187 : decode cX3_workNode 187 = .ok (.ifCond .eq 6, 3) := by decide +kernel
theorem dd91_190 : decode cX3_workNode 190 = .ok (.iload 7, 2) := by decide +kernel
theorem dd91_192 : decode cX3_workNode 192 = .ok (.ireturn, 1) := by decide +kernel
theorem dd91_193 : decode cX3_workNode 193 = .ok (.aload_n 0, 1) := by decide +kernel
theorem dd91_194 : decode cX3_workNode 194 = .ok (.getfield 20, 3) := by decide +kernel
theorem dd91_197 : decode cX3_workNode 197 = .ok (.iload_n 3, 1) := by decide +kernel
theorem dd91_198 : decode cX3_workNode 198 = .ok (.iload 6, 2) := by decide +kernel
theorem dd91_200 : decode cX3_workNode 200 = .ok (.invokevirtual 246, 3) := by decide +kernel
theorem dd91_203 : decode cX3_workNode 203 = .ok (.i2l, 1) := by decide +kernel
theorem dd91_204 : decode cX3_workNode 204 = .ok (.lstore 4, 2) := by decide +kernel
theorem dd91_206 : decode cX3_workNode 206 = .ok (.goto 59, 3) := by decide +kernel
theorem dd91_209 : decode cX3_workNode 209 = .ok (.aload_n 0, 1) := by decide +kernel
theorem dd91_210 : decode cX3_workNode 210 = .ok (.invokevirtual 239, 3) := by decide +kernel
theorem dd91_213 : decode cX3_workNode 213 = .ok (.i2l, 1) := by decide +kernel
theorem dd91_214 : decode cX3_workNode 214 = .ok (.lneg, 1) := by decide +kernel
theorem dd91_215 : decode cX3_workNode 215 = .ok (.lstore 4, 2) := by decide +kernel
theorem dd91_217 : decode cX3_workNode 217 = .ok (.goto 48, 3) := by decide +kernel
theorem dd91_220 : decode cX3_workNode 220 = .ok (.aload_n 0, 1) := by decide +kernel
theorem dd91_221 : decode cX3_workNode 221 = .ok (.invokevirtual 239, 3) := by decide +kernel
theorem dd91_224 : decode cX3_workNode 224 = .ok (.i2l, 1) := by decide +kernel
theorem dd91_225 : decode cX3_workNode 225 = .ok (.lstore 8, 2) := by decide +kernel
theorem dd91_227 : decode cX3_workNode 227 = .ok (.aload_n 0, 1) := by decide +kernel
theorem dd91_228 : decode cX3_workNode 228 = .ok (.invokevirtual 239, 3) := by decide +kernel
theorem dd91_231 : decode cX3_workNode 231 = .ok (.i2l, 1) := by decide +kernel
theorem dd91_232 : decode cX3_workNode 232 = .ok (.lstore 10, 2) := by decide +kernel
theorem dd91_234 : decode cX3_workNode 234 = .ok (.lload 8, 2) := by decide +kernel
theorem dd91_236 : decode cX3_workNode 236 = .ok (.lconst 0, 1) := by decide +kernel
theorem dd91_237 : decode cX3_workNode 237 = .ok (.lcmp, 1) := by decide +kernel
theorem dd91_238 : decode cX3_workNode 238 = .ok (.ifCond .ne 17, 3) := by decide +kernel
theorem dd91_241 : decode cX3_workNode 241 = .ok (.iload_n 2, 1) := by decide +kernel
theorem dd91_242 : decode cX3_workNode 242 = .ok (.bipush 47, 2) := by decide +kernel
theorem dd91_244 : decode cX3_workNode 244 = .ok (.if_icmp .eq 9, 3) := by decide +kernel
theorem dd91_247 : decode cX3_workNode 247 = .ok (.iload_n 2, 1) := by decide +kernel
theorem dd91_248 : decode cX3_workNode 248 = .ok (.bipush 37, 2) := by decide +kernel
theorem dd91_250 : decode cX3_workNode 250 = .ok (.if_icmp .ne 5, 3) := by decide +kernel
theorem dd91_253 : decode cX3_workNode 253 = .ok (.iconst 4, 1) := by decide +kernel
theorem dd91_254 : decode cX3_workNode 254 = .ok (.ireturn, 1) := by decide +kernel
theorem dd91_255 : decode cX3_workNode 255 = .ok (.iload_n 2, 1) := by decide +kernel
theorem dd91_256 : decode cX3_workNode 256 = .ok (.lload 10, 2) := by decide +kernel
theorem dd91_258 : decode cX3_workNode 258 = .ok (.lload 8, 2) := by decide +kernel
theorem dd91_260 : decode cX3_workNode 260 = .ok (.invokestatic 249, 3) := by decide +kernel
theorem dd91_263 : decode cX3_workNode 263 = .ok (.lstore 4, 2) := by decide +kernel
theorem dd91_265 : decode cX3_workNode 265 = .ok (.lload 4, 2) := by decide +kernel
theorem dd91_267 : decode cX3_workNode 267 = .ok (.lload 4, 2) := by decide +kernel
theorem dd91_269 : decode cX3_workNode 269 = .ok (.l2i, 1) := by decide +kernel
theorem dd91_270 : decode cX3_workNode 270 = .ok (.i2l, 1) := by decide +kernel
theorem dd91_271 : decode cX3_workNode 271 = .ok (.lcmp, 1) := by decide +kernel
theorem dd91_272 : decode cX3_workNode 272 = .ok (.ifCond .eq 5, 3) := by decide +kernel
theorem dd91_275 : decode cX3_workNode 275 = .ok (.iconst 5, 1) := by decide +kernel
theorem dd91_276 : decode cX3_workNode 276 = .ok (.ireturn, 1) := by decide +kernel
theorem dd91_277 : decode cX3_workNode 277 = .ok (.aload_n 0, 1) := by decide +kernel
theorem dd91_278 : decode cX3_workNode 278 = .ok (.getfield 84, 3) := by decide +kernel
theorem dd91_281 : decode cX3_workNode 281 = .ok (.aload_n 0, 1) := by decide +kernel
theorem dd91_282 : decode cX3_workNode 282 = .ok (.getfield 45, 3) := by decide +kernel
theorem dd91_285 : decode cX3_workNode 285 = .ok (.arraylength, 1) := by decide +kernel
theorem dd91_286 : decode cX3_workNode 286 = .ok (.if_icmp .ge 22, 3) := by decide +kernel
theorem dd91_289 : decode cX3_workNode 289 = .ok (.aload_n 0, 1) := by decide +kernel
theorem dd91_290 : decode cX3_workNode 290 = .ok (.getfield 45, 3) := by decide +kernel
theorem dd91_293 : decode cX3_workNode 293 = .ok (.aload_n 0, 1) := by decide +kernel
theorem dd91_294 : decode cX3_workNode 294 = .ok (.dup, 1) := by decide +kernel
theorem dd91_295 : decode cX3_workNode 295 = .ok (.getfield 84, 3) := by decide +kernel
theorem dd91_298 : decode cX3_workNode 298 = .ok (.dup_x1, 1) := by decide +kernel
theorem dd91_299 : decode cX3_workNode 299 = .ok (.iconst 1, 1) := by decide +kernel
theorem dd91_300 : decode cX3_workNode 300 = .ok (.iadd, 1) := by decide +kernel
theorem dd91_301 : decode cX3_workNode 301 = .ok (.putfield 84, 3) := by decide +kernel
theorem dd91_304 : decode cX3_workNode 304 = .ok (.lload 4, 2) := by decide +kernel
theorem dd91_306 : decode cX3_workNode 306 = .ok (.l2i, 1) := by decide +kernel
theorem dd91_307 : decode cX3_workNode 307 = .ok (.iastore, 1) := by decide +kernel
theorem dd91_308 : decode cX3_workNode 308 = .ok (.iconst 0, 1) := by decide +kernel
theorem dd91_309 : decode cX3_workNode 309 = .ok (.ireturn, 1) := by decide +kernel
def f91_265 (n : Nat) (x4 : Int64) (s : zσ) : Option (Int32 × zσ) :=
    if x4 = ((x4.toInt32).toInt64) then
    if (s.1 1007 16) < (Int32.ofNat 64) then
    zlet (sI s 1007 16 ((s.1 1007 16) + (1 : Int32))) fun u1 =>
    if zin? (s.1 1007 16) 64 = true then
    zlet (sI u1 1033 (nx (s.1 1007 16)) (x4.toInt32)) fun u2 =>
    some ((0 : Int32), u2)
    else none
    else some ((0 : Int32), s)
    else some ((5 : Int32), s)
set_option maxRecDepth 20000 in
theorem f91_265_ok {n d : Nat} {x4 : Int64} {s : zσ} {v : Int32} {s2 : zσ} (hd : 1 ≤ d) (h : f91_265 n x4 s = some (v, s2)) {w : zσ} {fz : Bool} {L : Nat} {xs : Nat → Int32} : zGo (zX fz L xs) d q_91 (265, [(0, .ref 1007), (4, .long x4)], [], zmk s w, 0, 0) (some (.int v), zmk s2 w, 0, 0) := by
  obtain ⟨d, rfl⟩ : ∃ d0, d = d0 + 1 := ⟨d - 1, by omega⟩
  unfold f91_265 at h
  refine zGo_s (pc' := 267) (st' := [.long x4]) dd91_265 rfl ?_
  refine zGo_s (pc' := 269) (st' := [.long x4, .long x4]) dd91_267 rfl ?_
  refine zGo_s (pc' := 270) (st' := [.int (x4.toInt32), .long x4]) dd91_269 rfl ?_
  refine zGo_s (pc' := 271) (st' := [.long ((x4.toInt32).toInt64), .long x4]) dd91_270 rfl ?_
  refine zGo_s (pc' := 272) (st' := [.int (lg_cmp x4 ((x4.toInt32).toInt64))]) dd91_271 rfl ?_
  rcases oite h with ⟨hc, h⟩ | ⟨hc, h⟩
  · refine zUT dd91_272 rfl (kcEqT hc) ?_
    refine zGo_s (pc' := 278) (st' := [.ref 1007]) dd91_277 rfl ?_
    refine cGI dd91_278 rfl rfl rfl rfl ?_
    refine zGo_s (pc' := 282) (st' := [.ref 1007, .int (s.1 1007 16)]) dd91_281 rfl ?_
    refine cGF (e := 1033) dd91_282 rfl rfl rfl rfl rfl ?_
    refine cAL dd91_285 rfl rfl (by decide) ?_
    rcases oite h with ⟨hc, h⟩ | ⟨hc, h⟩
    · refine zIF dd91_286 (kGeF hc) ?_
      refine zGo_s (pc' := 290) (st' := [.ref 1007]) dd91_289 rfl ?_
      refine cGF (e := 1033) dd91_290 rfl rfl rfl rfl rfl ?_
      refine zGo_s (pc' := 294) (st' := [.ref 1007, .ref 1033]) dd91_293 rfl ?_
      refine zGo_s (pc' := 295) (st' := [.ref 1007, .ref 1007, .ref 1033]) dd91_294 rfl ?_
      refine cGI dd91_295 rfl rfl rfl rfl ?_
      refine zGo_s (pc' := 299) (st' := [.int (s.1 1007 16), .ref 1007, .int (s.1 1007 16), .ref 1033]) dd91_298 rfl ?_
      refine zGo_s (pc' := 300) (st' := [.int (1 : Int32), .int (s.1 1007 16), .ref 1007, .int (s.1 1007 16), .ref 1033]) dd91_299 rfl ?_
      refine zGo_s (pc' := 301) (st' := [.int ((s.1 1007 16) + (1 : Int32)), .ref 1007, .int (s.1 1007 16), .ref 1033]) dd91_300 rfl ?_
      obtain ⟨u1, e_u1, h⟩ := olet h
      refine cPI dd91_301 rfl rfl rfl rfl rfl rfl e_u1 ?_
      refine zGo_s (pc' := 306) (st' := [.long x4, .int (s.1 1007 16), .ref 1033]) dd91_304 rfl ?_
      refine zGo_s (pc' := 307) (st' := [.int (x4.toInt32), .int (s.1 1007 16), .ref 1033]) dd91_306 rfl ?_
      obtain ⟨hi, h⟩ := ochk h
      obtain ⟨u2, e_u2, h⟩ := olet h
      refine cIS dd91_307 rfl rfl hi e_u2 ?_
      refine zGo_s (pc' := 309) (st' := [.int (0 : Int32)]) dd91_308 rfl ?_
      obtain ⟨rfl, rfl⟩ := oret h
      exact zGo_ret dd91_309 rfl rfl
    · refine zIT dd91_286 rfl (kGeT hc) ?_
      refine zGo_s (pc' := 309) (st' := [.int (0 : Int32)]) dd91_308 rfl ?_
      obtain ⟨rfl, rfl⟩ := oret h
      exact zGo_ret dd91_309 rfl rfl
  · refine zUF dd91_272 (kcEqF hc) ?_
    refine zGo_s (pc' := 276) (st' := [.int (5 : Int32)]) dd91_275 rfl ?_
    obtain ⟨rfl, rfl⟩ := oret h
    exact zGo_ret dd91_276 rfl rfl
def f91_255 (n : Nat) (x2 : Int32) (x8 : Int64) (x10 : Int64) (s : zσ) : Option (Int32 × zσ) :=
    yb1 (f96 n x2 x10 x8 s) fun v2 u1 =>
    f91_265 n v2 u1
set_option maxRecDepth 20000 in
theorem f91_255_ok {n d : Nat} {x2 : Int32} {x8 : Int64} {x10 : Int64} {s : zσ} {v : Int32} {s2 : zσ} (hd : 1 ≤ d) (h : f91_255 n x2 x8 x10 s = some (v, s2)) {w : zσ} {fz : Bool} {L : Nat} {xs : Nat → Int32} : zGo (zX fz L xs) d q_91 (255, [(0, .ref 1007), (2, .int x2), (8, .long x8), (10, .long x10)], [], zmk s w, 0, 0) (some (.int v), zmk s2 w, 0, 0) := by
  obtain ⟨d, rfl⟩ : ∃ d0, d = d0 + 1 := ⟨d - 1, by omega⟩
  unfold f91_255 at h
  refine zGo_s (pc' := 256) (st' := [.int x2]) dd91_255 rfl ?_
  refine zGo_s (pc' := 258) (st' := [.long x10, .int x2]) dd91_256 rfl ?_
  refine zGo_s (pc' := 260) (st' := [.long x8, .long x10, .int x2]) dd91_258 rfl ?_
  obtain ⟨v2, u1, hq, h⟩ := obnd h
  refine zCS1 (As := [.int x2, .long x10, .long x8]) (rest := []) (q' := q_96) dd91_260 rfl rfl rfl rfl rfl (f96_ok (d := d) (by omega)  hq) ?_
  refine zGo_s (pc' := 265) (st' := []) (lv' := [(4, .long v2), (0, .ref 1007), (2, .int x2), (8, .long x8), (10, .long x10)]) dd91_263 rfl ?_
  exact zGo_lv (lv := [(0, .ref 1007), (4, .long v2)]) ⟨by simp, by simp, by simp⟩ (f91_265_ok hd h)
def f91_115 (n : Nat) (y0 : Int64) (s : zσ) : Option (Int32 × zσ) :=
    f91_265 n y0 s
set_option maxRecDepth 20000 in
theorem f91_115_ok {n d : Nat} {y0 : Int64} {s : zσ} {v : Int32} {s2 : zσ} (hd : 1 ≤ d) (h : f91_115 n y0 s = some (v, s2)) {w : zσ} {fz : Bool} {L : Nat} {xs : Nat → Int32} : zGo (zX fz L xs) d q_91 (115, [(0, .ref 1007)], [.long y0], zmk s w, 0, 0) (some (.int v), zmk s2 w, 0, 0) := by
  obtain ⟨d, rfl⟩ : ∃ d0, d = d0 + 1 := ⟨d - 1, by omega⟩
  unfold f91_115 at h
  refine zGo_s (pc' := 117) (st' := []) (lv' := [(4, .long y0), (0, .ref 1007)]) dd91_115 rfl ?_
  refine zGo_s (pc' := 265) (st' := []) dd91_117 rfl ?_
  exact zGo_lv (lv := [(0, .ref 1007), (4, .long y0)]) ⟨by simp, by simp, by simp⟩ (f91_265_ok hd h)
def f91 (n : Nat) (x1 : Nat) (x2 : Int32) (x3 : Int32) (s : zσ) : Option (Int32 × zσ) :=
    if x2 = (1 : Int32) then
    if x3 < (8 : Int32) then
    if zin? x3 8 = true then
    f91_115 n ((s.1 1010 (nx x3)).toInt64) s
    else none
    else if zin? ((((3 : Int32) * (s.1 x1 10)) + x3) - (8 : Int32)) 27 = true then
    f91_115 n ((s.1 (x1 + 2) (nx ((((3 : Int32) * (s.1 x1 10)) + x3) - (8 : Int32)))).toInt64) s
    else none
    else if x2 = (2 : Int32) then
    zlet ((x3.toInt64)) fun v1 =>
    f91_265 n v1 s
    else if x2 = (5 : Int32) then
    yb1 (f93 n s) fun v3 u2 =>
    zlet ((-(v3.toInt64))) fun v4 =>
    f91_265 n v4 u2
    else if x2 = (91 : Int32) then
    yb1 (f93 n s) fun v6 u5 =>
    yb1 (f94 n x3 v6 u5) fun v8 u7 =>
    if v8 = (0 : Int32) then
    yb1 (f95 n x3 v6 u7) fun v10 u9 =>
    zlet ((v10.toInt64)) fun v11 =>
    f91_265 n v11 u9
    else some (v8, u7)
    else if x2 = (142 : Int32) then
    yb1 (f92 n x3 s) fun v13 u12 =>
    zlet ((v13.toInt64)) fun v14 =>
    if v14 = (-1 : Int64) then
    some ((1 : Int32), u12)
    else f91_265 n v14 u12
    else if x2 = (143 : Int32) then
    zlet (((s.1 1007 14).toInt64)) fun v15 =>
    f91_265 n v15 s
    else if x2 = (144 : Int32) then
    if zin? x3 8 = true then
    zrd 8 (s.2.2 1008 (nx x3)) fun a16 =>
    zlet (((s.1 a16 3).toInt64)) fun v17 =>
    f91_265 n v17 s
    else none
    else yb1 (f93 n s) fun v19 u18 =>
    zlet ((v19.toInt64)) fun v20 =>
    yb1 (f93 n u18) fun v22 u21 =>
    zlet ((v22.toInt64)) fun v23 =>
    if v20 = (0 : Int64) then
    if x2 = (47 : Int32) then
    some ((4 : Int32), u21)
    else if x2 = (37 : Int32) then
    some ((4 : Int32), u21)
    else f91_255 n x2 v20 v23 u21
    else f91_255 n x2 v20 v23 u21
set_option maxRecDepth 20000 in
theorem f91_ok {n d : Nat} {x1 : Nat} {x2 : Int32} {x3 : Int32} {s : zσ} {v : Int32} {s2 : zσ} (hd : 1 ≤ d) (hx1 : zck 8 x1 = true) (h : f91 n x1 x2 x3 s = some (v, s2)) {w : zσ} {fz : Bool} {L : Nat} {xs : Nat → Int32} : zGo (zX fz L xs) d q_91 (0, [(0, .ref 1007), (1, .ref x1), (2, .int x2), (3, .int x3)], [], zmk s w, 0, 0) (some (.int v), zmk s2 w, 0, 0) := by
  obtain ⟨d, rfl⟩ : ∃ d0, d = d0 + 1 := ⟨d - 1, by omega⟩
  unfold f91 at h
  refine zGo_s (pc' := 1) (st' := [.long (0 : Int64)]) dd91_0 rfl ?_
  refine zGo_s (pc' := 3) (st' := []) (lv' := [(4, .long (0 : Int64)), (0, .ref 1007), (1, .ref x1), (2, .int x2), (3, .int x3)]) dd91_1 rfl ?_
  refine zGo_s (pc' := 4) (st' := [.int x2]) dd91_3 rfl ?_
  rcases oite h with ⟨hc, h⟩ | ⟨hn0, h⟩
  · refine zGo_lw dd91_4 (o := 75) (by rw [hc]; decide +kernel) rfl ?_
    refine zGo_s (pc' := 80) (st' := [.int x3]) dd91_79 rfl ?_
    refine zGo_s (pc' := 82) (st' := [.int (8 : Int32), .int x3]) dd91_80 rfl ?_
    rcases oite h with ⟨hc, h⟩ | ⟨hc, h⟩
    · refine zIF dd91_82 (kGeF hc) ?_
      refine zGo_s (pc' := 86) (st' := [.ref 1007]) dd91_85 rfl ?_
      refine cGF (e := 1009) dd91_86 rfl rfl rfl rfl rfl ?_
      refine cGF (e := 1010) dd91_89 rfl rfl rfl rfl rfl ?_
      refine zGo_s (pc' := 93) (st' := [.int x3, .ref 1010]) dd91_92 rfl ?_
      obtain ⟨hi, h⟩ := ochk h
      refine cIA dd91_93 rfl rfl hi ?_
      refine zGo_s (pc' := 95) (st' := [.long ((s.1 1010 (nx x3)).toInt64)]) dd91_94 rfl ?_
      refine zGo_s (pc' := 115) (st' := [.long ((s.1 1010 (nx x3)).toInt64)]) dd91_95 rfl ?_
      exact zGo_lv (lv := [(0, .ref 1007)]) ⟨by simp, by simp, by simp⟩ (f91_115_ok hd h)
    · refine zIT dd91_82 rfl (kGeT hc) ?_
      refine zGo_s (pc' := 99) (st' := [.ref x1]) dd91_98 rfl ?_
      refine cGF (e := (x1 + 2)) dd91_99 rfl (ck8_s hx1).1 (ck8_s hx1).2 rfl (cf8_2 hx1).1 ?_
      refine zGo_s (pc' := 103) (st' := [.int (3 : Int32), .ref (x1 + 2)]) dd91_102 rfl ?_
      refine zGo_s (pc' := 104) (st' := [.ref x1, .int (3 : Int32), .ref (x1 + 2)]) dd91_103 rfl ?_
      refine cGI dd91_104 rfl (ck8_s hx1).1 (ck8_s hx1).2 rfl ?_
      refine zGo_s (pc' := 108) (st' := [.int ((3 : Int32) * (s.1 x1 10)), .ref (x1 + 2)]) dd91_107 rfl ?_
      refine zGo_s (pc' := 109) (st' := [.int x3, .int ((3 : Int32) * (s.1 x1 10)), .ref (x1 + 2)]) dd91_108 rfl ?_
      refine zGo_s (pc' := 110) (st' := [.int (((3 : Int32) * (s.1 x1 10)) + x3), .ref (x1 + 2)]) dd91_109 rfl ?_
      refine zGo_s (pc' := 112) (st' := [.int (8 : Int32), .int (((3 : Int32) * (s.1 x1 10)) + x3), .ref (x1 + 2)]) dd91_110 rfl ?_
      refine zGo_s (pc' := 113) (st' := [.int ((((3 : Int32) * (s.1 x1 10)) + x3) - (8 : Int32)), .ref (x1 + 2)]) dd91_112 rfl ?_
      obtain ⟨hi, h⟩ := ochk h
      refine cIA dd91_113 (cf8_2 hx1).2.1 (cf8_2 hx1).2.2 hi ?_
      refine zGo_s (pc' := 115) (st' := [.long ((s.1 (x1 + 2) (nx ((((3 : Int32) * (s.1 x1 10)) + x3) - (8 : Int32)))).toInt64)]) dd91_114 rfl ?_
      exact zGo_lv (lv := [(0, .ref 1007)]) ⟨by simp, by simp, by simp⟩ (f91_115_ok hd h)
  rcases oite h with ⟨hc, h⟩ | ⟨hn1, h⟩
  · refine zGo_lw dd91_4 (o := 68) (by rw [hc]; decide +kernel) rfl ?_
    refine zGo_s (pc' := 73) (st' := [.int x3]) dd91_72 rfl ?_
    refine zGo_s (pc' := 74) (st' := [.long (x3.toInt64)]) dd91_73 rfl ?_
    obtain ⟨v1, e_v1, h⟩ := olet h
    refine zGo_is2 e_v1 dd91_74 (x' := (76, [(4, .long v1), (0, .ref 1007), (1, .ref x1), (2, .int x2), (3, .int x3)], [], _, _, _)) rfl ?_
    refine zGo_s (pc' := 265) (st' := []) dd91_76 rfl ?_
    exact zGo_lv (lv := [(0, .ref 1007), (4, .long v1)]) ⟨by simp, by simp, by simp⟩ (f91_265_ok hd h)
  rcases oite h with ⟨hc, h⟩ | ⟨hn2, h⟩
  · refine zGo_lw dd91_4 (o := 205) (by rw [hc]; decide +kernel) rfl ?_
    refine zGo_s (pc' := 210) (st' := [.ref 1007]) dd91_209 rfl ?_
    obtain ⟨v3, u2, hq, h⟩ := obnd h
    refine zCV1 (As := []) (rest := []) (b := 1007) (q' := q_93) dd91_210 rfl rfl (rcv_c rfl rfl (by decide)) rfl rfl rfl (f93_ok (d := d) (by omega)  hq) ?_
    refine zGo_s (pc' := 214) (st' := [.long (v3.toInt64)]) dd91_213 rfl ?_
    refine zGo_s (pc' := 215) (st' := [.long (-(v3.toInt64))]) dd91_214 rfl ?_
    obtain ⟨v4, e_v4, h⟩ := olet h
    refine zGo_is2 e_v4 dd91_215 (x' := (217, [(4, .long v4), (0, .ref 1007), (1, .ref x1), (2, .int x2), (3, .int x3)], [], _, _, _)) rfl ?_
    refine zGo_s (pc' := 265) (st' := []) dd91_217 rfl ?_
    exact zGo_lv (lv := [(0, .ref 1007), (4, .long v4)]) ⟨by simp, by simp, by simp⟩ (f91_265_ok hd h)
  rcases oite h with ⟨hc, h⟩ | ⟨hn3, h⟩
  · refine zGo_lw dd91_4 (o := 163) (by rw [hc]; decide +kernel) rfl ?_
    refine zGo_s (pc' := 168) (st' := [.ref 1007]) dd91_167 rfl ?_
    obtain ⟨v6, u5, hq, h⟩ := obnd h
    refine zCV1 (As := []) (rest := []) (b := 1007) (q' := q_93) dd91_168 rfl rfl (rcv_c rfl rfl (by decide)) rfl rfl rfl (f93_ok (d := d) (by omega)  hq) ?_
    refine zGo_s (pc' := 173) (st' := []) (lv' := [(6, .int v6), (4, .long (0 : Int64)), (0, .ref 1007), (1, .ref x1), (2, .int x2), (3, .int x3)]) dd91_171 rfl ?_
    refine zGo_s (pc' := 174) (st' := [.ref 1007]) dd91_173 rfl ?_
    refine cGF (e := 1009) dd91_174 rfl rfl rfl rfl rfl ?_
    refine zGo_s (pc' := 178) (st' := [.int x3, .ref 1009]) dd91_177 rfl ?_
    refine zGo_s (pc' := 180) (st' := [.int v6, .int x3, .ref 1009]) dd91_178 rfl ?_
    obtain ⟨v8, u7, hq, h⟩ := obnd h
    refine zCV1 (As := [.int x3, .int v6]) (rest := []) (b := 1009) (q' := q_94) dd91_180 rfl rfl (rcv_c rfl rfl (by decide)) rfl rfl rfl (f94_ok (d := d) (by omega)  hq) ?_
    refine zGo_s (pc' := 185) (st' := []) (lv' := [(7, .int v8), (6, .int v6), (4, .long (0 : Int64)), (0, .ref 1007), (1, .ref x1), (2, .int x2), (3, .int x3)]) dd91_183 rfl ?_
    refine zGo_s (pc' := 187) (st' := [.int v8]) dd91_185 rfl ?_
    rcases oite h with ⟨hc, h⟩ | ⟨hc, h⟩
    · refine zUT dd91_187 rfl (kEqT hc) ?_
      refine zGo_s (pc' := 194) (st' := [.ref 1007]) dd91_193 rfl ?_
      refine cGF (e := 1009) dd91_194 rfl rfl rfl rfl rfl ?_
      refine zGo_s (pc' := 198) (st' := [.int x3, .ref 1009]) dd91_197 rfl ?_
      refine zGo_s (pc' := 200) (st' := [.int v6, .int x3, .ref 1009]) dd91_198 rfl ?_
      obtain ⟨v10, u9, hq, h⟩ := obnd h
      refine zCV1 (As := [.int x3, .int v6]) (rest := []) (b := 1009) (q' := q_95) dd91_200 rfl rfl (rcv_c rfl rfl (by decide)) rfl rfl rfl (f95_ok (d := d) (by omega)  hq) ?_
      refine zGo_s (pc' := 204) (st' := [.long (v10.toInt64)]) dd91_203 rfl ?_
      obtain ⟨v11, e_v11, h⟩ := olet h
      refine zGo_is2 e_v11 dd91_204 (x' := (206, [(4, .long v11), (7, .int v8), (6, .int v6), (0, .ref 1007), (1, .ref x1), (2, .int x2), (3, .int x3)], [], _, _, _)) rfl ?_
      refine zGo_s (pc' := 265) (st' := []) dd91_206 rfl ?_
      exact zGo_lv (lv := [(0, .ref 1007), (4, .long v11)]) ⟨by simp, by simp, by simp⟩ (f91_265_ok hd h)
    · refine zUF dd91_187 (kEqF hc) ?_
      refine zGo_s (pc' := 192) (st' := [.int v8]) dd91_190 rfl ?_
      obtain ⟨rfl, rfl⟩ := oret h
      exact zGo_ret dd91_192 rfl rfl
  rcases oite h with ⟨hc, h⟩ | ⟨hn4, h⟩
  · refine zGo_lw dd91_4 (o := 141) (by rw [hc]; decide +kernel) rfl ?_
    refine zGo_s (pc' := 146) (st' := [.ref 1007]) dd91_145 rfl ?_
    refine cGF (e := 1009) dd91_146 rfl rfl rfl rfl rfl ?_
    refine zGo_s (pc' := 150) (st' := [.int x3, .ref 1009]) dd91_149 rfl ?_
    obtain ⟨v13, u12, hq, h⟩ := obnd h
    refine zCV1 (As := [.int x3]) (rest := []) (b := 1009) (q' := q_92) dd91_150 rfl rfl (rcv_c rfl rfl (by decide)) rfl rfl rfl (f92_ok (d := d) (by omega)  hq) ?_
    refine zGo_s (pc' := 154) (st' := [.long (v13.toInt64)]) dd91_153 rfl ?_
    obtain ⟨v14, e_v14, h⟩ := olet h
    refine zGo_is2 e_v14 dd91_154 (x' := (156, [(4, .long v14), (0, .ref 1007), (1, .ref x1), (2, .int x2), (3, .int x3)], [], _, _, _)) rfl ?_
    refine zGo_s (pc' := 158) (st' := [.long v14]) dd91_156 rfl ?_
    refine zGo_s (pc' := 161) (st' := [.long (-1 : Int64), .long v14]) dd91_158 rfl ?_
    refine zGo_s (pc' := 162) (st' := [.int (lg_cmp v14 (-1 : Int64))]) dd91_161 rfl ?_
    rcases oite h with ⟨hc, h⟩ | ⟨hc, h⟩
    · refine zUF dd91_162 (kcNeF hc) ?_
      refine zGo_s (pc' := 166) (st' := [.int (1 : Int32)]) dd91_165 rfl ?_
      obtain ⟨rfl, rfl⟩ := oret h
      exact zGo_ret dd91_166 rfl rfl
    · refine zUT dd91_162 rfl (kcNeT hc) ?_
      exact zGo_lv (lv := [(0, .ref 1007), (4, .long v14)]) ⟨by simp, by simp, by simp⟩ (f91_265_ok hd h)
  rcases oite h with ⟨hc, h⟩ | ⟨hn5, h⟩
  · refine zGo_lw dd91_4 (o := 116) (by rw [hc]; decide +kernel) rfl ?_
    refine zGo_s (pc' := 121) (st' := [.ref 1007]) dd91_120 rfl ?_
    refine cGI dd91_121 rfl rfl rfl rfl ?_
    refine zGo_s (pc' := 125) (st' := [.long ((s.1 1007 14).toInt64)]) dd91_124 rfl ?_
    obtain ⟨v15, e_v15, h⟩ := olet h
    refine zGo_is2 e_v15 dd91_125 (x' := (127, [(4, .long v15), (0, .ref 1007), (1, .ref x1), (2, .int x2), (3, .int x3)], [], _, _, _)) rfl ?_
    refine zGo_s (pc' := 265) (st' := []) dd91_127 rfl ?_
    exact zGo_lv (lv := [(0, .ref 1007), (4, .long v15)]) ⟨by simp, by simp, by simp⟩ (f91_265_ok hd h)
  rcases oite h with ⟨hc, h⟩ | ⟨hn6, h⟩
  · refine zGo_lw dd91_4 (o := 126) (by rw [hc]; decide +kernel) rfl ?_
    refine zGo_s (pc' := 131) (st' := [.ref 1007]) dd91_130 rfl ?_
    refine cGF (e := 1008) dd91_131 rfl rfl rfl rfl rfl ?_
    refine zGo_s (pc' := 135) (st' := [.int x3, .ref 1008]) dd91_134 rfl ?_
    obtain ⟨hi, h⟩ := ochk h
    obtain ⟨a16, e_a16, c_a16, h⟩ := ordd h
    refine cAA dd91_135 rfl rfl (Or.inl rfl) hi e_a16 ?_
    refine cGI dd91_136 rfl (ck8_s c_a16).1 (ck8_s c_a16).2 rfl ?_
    refine zGo_s (pc' := 140) (st' := [.long ((s.1 a16 3).toInt64)]) dd91_139 rfl ?_
    obtain ⟨v17, e_v17, h⟩ := olet h
    refine zGo_is2 e_v17 dd91_140 (x' := (142, [(4, .long v17), (0, .ref 1007), (1, .ref x1), (2, .int x2), (3, .int x3)], [], _, _, _)) rfl ?_
    refine zGo_s (pc' := 265) (st' := []) dd91_142 rfl ?_
    exact zGo_lv (lv := [(0, .ref 1007), (4, .long v17)]) ⟨by simp, by simp, by simp⟩ (f91_265_ok hd h)
  refine zGo_lw dd91_4 (o := 216) (zlo_d (by decide +kernel) fun p hp => ?_) rfl ?_
  · simp only [List.mem_cons, List.not_mem_nil, or_false] at hp
    rcases hp with rfl | rfl | rfl | rfl | rfl | rfl | rfl
    · exact hn0
    · exact hn1
    · exact hn2
    · exact hn3
    · exact hn4
    · exact hn5
    · exact hn6
  refine zGo_s (pc' := 221) (st' := [.ref 1007]) dd91_220 rfl ?_
  obtain ⟨v19, u18, hq, h⟩ := obnd h
  refine zCV1 (As := []) (rest := []) (b := 1007) (q' := q_93) dd91_221 rfl rfl (rcv_c rfl rfl (by decide)) rfl rfl rfl (f93_ok (d := d) (by omega)  hq) ?_
  refine zGo_s (pc' := 225) (st' := [.long (v19.toInt64)]) dd91_224 rfl ?_
  obtain ⟨v20, e_v20, h⟩ := olet h
  refine zGo_is2 e_v20 dd91_225 (x' := (227, [(8, .long v20), (4, .long (0 : Int64)), (0, .ref 1007), (1, .ref x1), (2, .int x2), (3, .int x3)], [], _, _, _)) rfl ?_
  refine zGo_s (pc' := 228) (st' := [.ref 1007]) dd91_227 rfl ?_
  obtain ⟨v22, u21, hq, h⟩ := obnd h
  refine zCV1 (As := []) (rest := []) (b := 1007) (q' := q_93) dd91_228 rfl rfl (rcv_c rfl rfl (by decide)) rfl rfl rfl (f93_ok (d := d) (by omega)  hq) ?_
  refine zGo_s (pc' := 232) (st' := [.long (v22.toInt64)]) dd91_231 rfl ?_
  obtain ⟨v23, e_v23, h⟩ := olet h
  refine zGo_is2 e_v23 dd91_232 (x' := (234, [(10, .long v23), (8, .long v20), (4, .long (0 : Int64)), (0, .ref 1007), (1, .ref x1), (2, .int x2), (3, .int x3)], [], _, _, _)) rfl ?_
  refine zGo_s (pc' := 236) (st' := [.long v20]) dd91_234 rfl ?_
  refine zGo_s (pc' := 237) (st' := [.long (0 : Int64), .long v20]) dd91_236 rfl ?_
  refine zGo_s (pc' := 238) (st' := [.int (lg_cmp v20 (0 : Int64))]) dd91_237 rfl ?_
  rcases oite h with ⟨hc, h⟩ | ⟨hc, h⟩
  · refine zUF dd91_238 (kcNeF hc) ?_
    refine zGo_s (pc' := 242) (st' := [.int x2]) dd91_241 rfl ?_
    refine zGo_s (pc' := 244) (st' := [.int (47 : Int32), .int x2]) dd91_242 rfl ?_
    rcases oite h with ⟨hc, h⟩ | ⟨hc, h⟩
    · refine zIT dd91_244 rfl (kEqT hc) ?_
      refine zGo_s (pc' := 254) (st' := [.int (4 : Int32)]) dd91_253 rfl ?_
      obtain ⟨rfl, rfl⟩ := oret h
      exact zGo_ret dd91_254 rfl rfl
    · refine zIF dd91_244 (kEqF hc) ?_
      refine zGo_s (pc' := 248) (st' := [.int x2]) dd91_247 rfl ?_
      refine zGo_s (pc' := 250) (st' := [.int (37 : Int32), .int x2]) dd91_248 rfl ?_
      rcases oite h with ⟨hc, h⟩ | ⟨hc, h⟩
      · refine zIF dd91_250 (kNeF hc) ?_
        refine zGo_s (pc' := 254) (st' := [.int (4 : Int32)]) dd91_253 rfl ?_
        obtain ⟨rfl, rfl⟩ := oret h
        exact zGo_ret dd91_254 rfl rfl
      · refine zIT dd91_250 rfl (kNeT hc) ?_
        exact zGo_lv (lv := [(0, .ref 1007), (2, .int x2), (8, .long v20), (10, .long v23)]) ⟨by simp, by simp, by simp⟩ (f91_255_ok hd h)
  · refine zUT dd91_238 rfl (kcNeT hc) ?_
    exact zGo_lv (lv := [(0, .ref 1007), (2, .int x2), (8, .long v20), (10, .long v23)]) ⟨by simp, by simp, by simp⟩ (f91_255_ok hd h)
/-! PH$Machine.work(LPH$Task;I)I -/
theorem dd90_0 : decode cX3_work 0 = .ok (.aload_n 0, 1) := by decide +kernel
theorem dd90_1 : decode cX3_work 1 = .ok (.iconst 0, 1) := by decide +kernel
theorem dd90_2 : decode cX3_work 2 = .ok (.putfield 84, 3) := by decide +kernel
theorem dd90_5 : decode cX3_work 5 = .ok (.aload_n 0, 1) := by decide +kernel
theorem dd90_6 : decode cX3_work 6 = .ok (.getfield 59, 3) := by decide +kernel
theorem dd90_9 : decode cX3_work 9 = .ok (.getfield 210, 3) := by decide +kernel
theorem dd90_12 : decode cX3_work 12 = .ok (.iload_n 2, 1) := by decide +kernel
theorem dd90_13 : decode cX3_work 13 = .ok (.iaload, 1) := by decide +kernel
theorem dd90_14 : decode cX3_work 14 = .ok (.istore_n 3, 1) := by decide +kernel
theorem dd90_15 : decode cX3_work 15 = .ok (.iload_n 3, 1) := by decide +kernel
theorem dd90_16 : decode cX3_work 16 = .ok (.aload_n 0, 1) := by decide +kernel
theorem dd90_17 : decode cX3_work 17 = .ok (.getfield 59, 3) := by decide +kernel
theorem dd90_20 : decode cX3_work 20 = .ok (.getfield 215, 3) := by decide +kernel
theorem dd90_23 : decode cX3_work 23 = .ok (.iload_n 2, 1) := by decide +kernel
theorem dd90_24 : decode cX3_work 24 = .ok (.iaload, 1) := by decide +kernel
theorem dd90_25 : decode cX3_work 25 = .ok (.if_icmp .ge 42, 3) := by decide +kernel
theorem dd90_28 : decode cX3_work 28 = .ok (.aload_n 0, 1) := by decide +kernel
theorem dd90_29 : decode cX3_work 29 = .ok (.aload_n 1, 1) := by decide +kernel
theorem dd90_30 : decode cX3_work 30 = .ok (.aload_n 0, 1) := by decide +kernel
theorem dd90_31 : decode cX3_work 31 = .ok (.getfield 59, 3) := by decide +kernel
theorem dd90_34 : decode cX3_work 34 = .ok (.getfield 218, 3) := by decide +kernel
theorem dd90_37 : decode cX3_work 37 = .ok (.iload_n 3, 1) := by decide +kernel
theorem dd90_38 : decode cX3_work 38 = .ok (.iaload, 1) := by decide +kernel
theorem dd90_39 : decode cX3_work 39 = .ok (.aload_n 0, 1) := by decide +kernel
theorem dd90_40 : decode cX3_work 40 = .ok (.getfield 59, 3) := by decide +kernel
theorem dd90_43 : decode cX3_work 43 = .ok (.getfield 221, 3) := by decide +kernel
theorem dd90_46 : decode cX3_work 46 = .ok (.iload_n 3, 1) := by decide +kernel
theorem dd90_47 : decode cX3_work 47 = .ok (.iaload, 1) := by decide +kernel
theorem dd90_48 : decode cX3_work 48 = .ok (.invokevirtual 224, 3) := by decide +kernel
theorem dd90_51 : decode cX3_work 51 = .ok (.istore 4, 2) := by decide +kernel
theorem dd90_53 : decode cX3_work 53 = .ok (.iload 4, 2) := by decide +kernel
theorem dd90_55 : decode cX3_work 55 = .ok (.ifCond .eq 6, 3) := by decide +kernel
theorem dd90_58 : decode cX3_work 58 = .ok (.iload 4, 2) := by decide +kernel
theorem dd90_60 : decode cX3_work 60 = .ok (.ireturn, 1) := by decide +kernel
theorem dd90_61 : decode cX3_work 61 = .ok (.iinc 3 1, 3) := by decide +kernel
theorem dd90_64 : decode cX3_work 64 = .ok (.goto (-49), 3) := by decide +kernel
theorem dd90_67 : decode cX3_work 67 = .ok (.iconst 0, 1) := by decide +kernel
theorem dd90_68 : decode cX3_work 68 = .ok (.ireturn, 1) := by decide +kernel
def f90_15 (n : Nat) : Nat → Nat → Int32 → Int32 → zσ → Option (Int32 × zσ)
  | 0, _, _, _, _ => none
  | j + 1, x1, x2, x3, s =>
    zrd 6 (s.2.2 1007 9) fun a1 =>
    if zin? x2 200 = true then
    if x3 < (s.1 (a1 + 5) (nx x2)) then
    zrd 6 (s.2.2 1007 9) fun a2 =>
    if zin? x3 400 = true then
    zrd 6 (s.2.2 1007 9) fun a3 =>
    if zin? x3 400 = true then
    yb1 (f91 n x1 (s.1 (a2 + 8) (nx x3)) (s.1 (a3 + 9) (nx x3)) s) fun v5 u4 =>
    if v5 = (0 : Int32) then
    f90_15 n j x1 x2 (x3 + (1 : Int32)) u4
    else some (v5, u4)
    else none
    else none
    else some ((0 : Int32), s)
    else none
set_option maxRecDepth 20000 in
theorem f90_15_ok {n d : Nat} (hd : 2 ≤ d) : ∀ (j : Nat) (x1 : Nat) (x2 : Int32) (x3 : Int32) (s : zσ) (v : Int32) (s2 : zσ), zck 8 x1 = true → f90_15 n j x1 x2 x3 s = some (v, s2) → ∀ {w : zσ} {fz : Bool} {L : Nat} {xs : Nat → Int32}, zGo (zX fz L xs) d q_90 (15, [(0, .ref 1007), (1, .ref x1), (2, .int x2), (3, .int x3)], [], zmk s w, 0, 0) (some (.int v), zmk s2 w, 0, 0) := by
  obtain ⟨d, rfl⟩ : ∃ d0, d = d0 + 1 := ⟨d - 1, by omega⟩
  intro j
  induction j with
  | zero => intro x1 x2 x3 s v s2 hx1 h; cases h
  | succ j ih =>
    intro x1 x2 x3 s v s2 hx1 h w fz L xs
    rw [f90_15] at h
    refine zGo_s (pc' := 16) (st' := [.int x3]) dd90_15 rfl ?_
    refine zGo_s (pc' := 17) (st' := [.ref 1007, .int x3]) dd90_16 rfl ?_
    obtain ⟨a1, e_a1, c_a1, h⟩ := ordd h
    refine cGR dd90_17 rfl rfl rfl rfl e_a1 ?_
    refine cGF (e := (a1 + 5)) dd90_20 rfl (ck6_s c_a1).1 (ck6_s c_a1).2 rfl (cf6_4 c_a1).1 ?_
    refine zGo_s (pc' := 24) (st' := [.int x2, .ref (a1 + 5), .int x3]) dd90_23 rfl ?_
    obtain ⟨hi, h⟩ := ochk h
    refine cIA dd90_24 (cf6_4 c_a1).2.1 (cf6_4 c_a1).2.2 hi ?_
    rcases oite h with ⟨hc, h⟩ | ⟨hc, h⟩
    · refine zIF dd90_25 (kGeF hc) ?_
      refine zGo_s (pc' := 29) (st' := [.ref 1007]) dd90_28 rfl ?_
      refine zGo_s (pc' := 30) (st' := [.ref x1, .ref 1007]) dd90_29 rfl ?_
      refine zGo_s (pc' := 31) (st' := [.ref 1007, .ref x1, .ref 1007]) dd90_30 rfl ?_
      obtain ⟨a2, e_a2, c_a2, h⟩ := ordd h
      refine cGR dd90_31 rfl rfl rfl rfl e_a2 ?_
      refine cGF (e := (a2 + 8)) dd90_34 rfl (ck6_s c_a2).1 (ck6_s c_a2).2 rfl (cf6_7 c_a2).1 ?_
      refine zGo_s (pc' := 38) (st' := [.int x3, .ref (a2 + 8), .ref x1, .ref 1007]) dd90_37 rfl ?_
      obtain ⟨hi, h⟩ := ochk h
      refine cIA dd90_38 (cf6_7 c_a2).2.1 (cf6_7 c_a2).2.2 hi ?_
      refine zGo_s (pc' := 40) (st' := [.ref 1007, .int (s.1 (a2 + 8) (nx x3)), .ref x1, .ref 1007]) dd90_39 rfl ?_
      obtain ⟨a3, e_a3, c_a3, h⟩ := ordd h
      refine cGR dd90_40 rfl rfl rfl rfl e_a3 ?_
      refine cGF (e := (a3 + 9)) dd90_43 rfl (ck6_s c_a3).1 (ck6_s c_a3).2 rfl (cf6_8 c_a3).1 ?_
      refine zGo_s (pc' := 47) (st' := [.int x3, .ref (a3 + 9), .int (s.1 (a2 + 8) (nx x3)), .ref x1, .ref 1007]) dd90_46 rfl ?_
      obtain ⟨hi, h⟩ := ochk h
      refine cIA dd90_47 (cf6_8 c_a3).2.1 (cf6_8 c_a3).2.2 hi ?_
      obtain ⟨v5, u4, hq, h⟩ := obnd h
      refine zCV1 (As := [.ref x1, .int (s.1 (a2 + 8) (nx x3)), .int (s.1 (a3 + 9) (nx x3))]) (rest := []) (b := 1007) (q' := q_91) dd90_48 rfl rfl (rcv_c rfl rfl (by decide)) rfl rfl rfl (f91_ok (d := d) (by omega) hx1 hq) ?_
      refine zGo_s (pc' := 53) (st' := []) (lv' := [(4, .int v5), (0, .ref 1007), (1, .ref x1), (2, .int x2), (3, .int x3)]) dd90_51 rfl ?_
      refine zGo_s (pc' := 55) (st' := [.int v5]) dd90_53 rfl ?_
      rcases oite h with ⟨hc, h⟩ | ⟨hc, h⟩
      · refine zUT dd90_55 rfl (kEqT hc) ?_
        refine zGo_s (pc' := 64) (st' := []) (lv' := [(3, .int (x3 + (1 : Int32))), (4, .int v5), (0, .ref 1007), (1, .ref x1), (2, .int x2)]) dd90_61 rfl ?_
        refine zGo_s (pc' := 15) (st' := []) dd90_64 rfl ?_
        exact zGo_lv (lv := [(0, .ref 1007), (1, .ref x1), (2, .int x2), (3, .int (x3 + (1 : Int32)))]) ⟨by simp, by simp, by simp⟩ (ih _ _ _ _ _ _ hx1 h)
      · refine zUF dd90_55 (kEqF hc) ?_
        refine zGo_s (pc' := 60) (st' := [.int v5]) dd90_58 rfl ?_
        obtain ⟨rfl, rfl⟩ := oret h
        exact zGo_ret dd90_60 rfl rfl
    · refine zIT dd90_25 rfl (kGeT hc) ?_
      refine zGo_s (pc' := 68) (st' := [.int (0 : Int32)]) dd90_67 rfl ?_
      obtain ⟨rfl, rfl⟩ := oret h
      exact zGo_ret dd90_68 rfl rfl
def f90 (n : Nat) (x1 : Nat) (x2 : Int32) (s : zσ) : Option (Int32 × zσ) :=
    zlet (sI s 1007 16 (0 : Int32)) fun u1 =>
    zrd 6 (u1.2.2 1007 9) fun a2 =>
    if zin? x2 200 = true then
    zlet ((u1.1 (a2 + 4) (nx x2))) fun v3 =>
    f90_15 n n x1 x2 v3 u1
    else none
set_option maxRecDepth 20000 in
theorem f90_ok {n d : Nat} {x1 : Nat} {x2 : Int32} {s : zσ} {v : Int32} {s2 : zσ} (hd : 2 ≤ d) (hx1 : zck 8 x1 = true) (h : f90 n x1 x2 s = some (v, s2)) {w : zσ} {fz : Bool} {L : Nat} {xs : Nat → Int32} : zGo (zX fz L xs) d q_90 (0, [(0, .ref 1007), (1, .ref x1), (2, .int x2)], [], zmk s w, 0, 0) (some (.int v), zmk s2 w, 0, 0) := by
  obtain ⟨d, rfl⟩ : ∃ d0, d = d0 + 1 := ⟨d - 1, by omega⟩
  unfold f90 at h
  refine zGo_s (pc' := 1) (st' := [.ref 1007]) dd90_0 rfl ?_
  refine zGo_s (pc' := 2) (st' := [.int (0 : Int32), .ref 1007]) dd90_1 rfl ?_
  obtain ⟨u1, e_u1, h⟩ := olet h
  refine cPI dd90_2 rfl rfl rfl rfl rfl rfl e_u1 ?_
  refine zGo_s (pc' := 6) (st' := [.ref 1007]) dd90_5 rfl ?_
  obtain ⟨a2, e_a2, c_a2, h⟩ := ordd h
  refine cGR dd90_6 rfl rfl rfl rfl e_a2 ?_
  refine cGF (e := (a2 + 4)) dd90_9 rfl (ck6_s c_a2).1 (ck6_s c_a2).2 rfl (cf6_3 c_a2).1 ?_
  refine zGo_s (pc' := 13) (st' := [.int x2, .ref (a2 + 4)]) dd90_12 rfl ?_
  obtain ⟨hi, h⟩ := ochk h
  refine cIA dd90_13 (cf6_3 c_a2).2.1 (cf6_3 c_a2).2.2 hi ?_
  obtain ⟨v3, e_v3, h⟩ := olet h
  refine zGo_is1 e_v3 dd90_14 (x' := (15, [(3, .int v3), (0, .ref 1007), (1, .ref x1), (2, .int x2)], [], _, _, _)) rfl ?_
  exact zGo_lv (lv := [(0, .ref 1007), (1, .ref x1), (2, .int x2), (3, .int v3)]) ⟨by simp, by simp, by simp⟩ (f90_15_ok hd _ _ _ _ _ _ _ hx1 h)
/-! PH$Machine.assign(LPH$Task;II)V -/
theorem dd98_0 : decode cX3_assign 0 = .ok (.iload_n 2, 1) := by decide +kernel
theorem dd98_1 : decode cX3_assign 1 = .ok (.bipush 8, 2) := by decide +kernel
theorem dd98_3 : decode cX3_assign 3 = .ok (.if_icmp .lt 23, 3) := by decide +kernel
theorem dd98_6 : decode cX3_assign 6 = .ok (.aload_n 1, 1) := by decide +kernel
theorem dd98_7 : decode cX3_assign 7 = .ok (.getfield 231, 3) := by decide +kernel
theorem dd98_10 : decode cX3_assign 10 = .ok (.iconst 3, 1) := by decide +kernel
theorem dd98_11 : decode cX3_assign 11 = .ok (.aload_n 1, 1) := by decide +kernel
theorem dd98_12 : decode cX3_assign 12 = .ok (.getfield 186, 3) := by decide +kernel
theorem dd98_15 : decode cX3_assign 15 = .ok (.imul, 1) := by decide +kernel
theorem dd98_16 : decode cX3_assign 16 = .ok (.iload_n 2, 1) := by decide +kernel
theorem dd98_17 : decode cX3_assign 17 = .ok (.iadd, 1) := by decide +kernel
theorem dd98_18 : decode cX3_assign 18 = .ok (.bipush 8, 2) := by decide +kernel
theorem dd98_20 : decode cX3_assign 20 = .ok (.isub, 1) := by decide +kernel
theorem dd98_21 : decode cX3_assign 21 = .ok (.iload_n 3, 1) := by decide +kernel
theorem dd98_22 : decode cX3_assign 22 = .ok (.iastore, 1) := by decide +kernel
theorem dd98_23 : decode cX3_assign 23 = .ok (.goto 17, 3) := by decide +kernel
theorem dd98_26 : decode cX3_assign 26 = .ok (.iload_n 2, 1) := by decide +kernel
theorem dd98_27 : decode cX3_assign 27 = .ok (.ifCond .lt 13, 3) := by decide +kernel
theorem dd98_30 : decode cX3_assign 30 = .ok (.aload_n 0, 1) := by decide +kernel
theorem dd98_31 : decode cX3_assign 31 = .ok (.getfield 20, 3) := by decide +kernel
theorem dd98_34 : decode cX3_assign 34 = .ok (.getfield 228, 3) := by decide +kernel
theorem dd98_37 : decode cX3_assign 37 = .ok (.iload_n 2, 1) := by decide +kernel
theorem dd98_38 : decode cX3_assign 38 = .ok (.iload_n 3, 1) := by decide +kernel
theorem dd98_39 : decode cX3_assign 39 = .ok (.iastore, 1) := by decide +kernel
theorem dd98_40 : decode cX3_assign 40 = .ok (.return_, 1) := by decide +kernel
def f98 (n : Nat) (x1 : Nat) (x2 : Int32) (x3 : Int32) (s : zσ) : Option zσ :=
    if x2 < (8 : Int32) then
    if x2 < (0 : Int32) then
    some s
    else if zin? x2 8 = true then
    zlet (sI s 1010 (nx x2) x3) fun u1 =>
    some u1
    else none
    else if zin? ((((3 : Int32) * (s.1 x1 10)) + x2) - (8 : Int32)) 27 = true then
    zlet (sI s (x1 + 2) (nx ((((3 : Int32) * (s.1 x1 10)) + x2) - (8 : Int32))) x3) fun u2 =>
    some u2
    else none
set_option maxRecDepth 20000 in
theorem f98_ok {n d : Nat} {x1 : Nat} {x2 : Int32} {x3 : Int32} {s : zσ} {s2 : zσ} (hd : 0 ≤ d) (hx1 : zck 8 x1 = true) (h : f98 n x1 x2 x3 s = some s2) {w : zσ} {fz : Bool} {L : Nat} {xs : Nat → Int32} : zGo (zX fz L xs) d q_98 (0, [(0, .ref 1007), (1, .ref x1), (2, .int x2), (3, .int x3)], [], zmk s w, 0, 0) (none, zmk s2 w, 0, 0) := by
  unfold f98 at h
  refine zGo_s (pc' := 1) (st' := [.int x2]) dd98_0 rfl ?_
  refine zGo_s (pc' := 3) (st' := [.int (8 : Int32), .int x2]) dd98_1 rfl ?_
  rcases oite h with ⟨hc, h⟩ | ⟨hc, h⟩
  · refine zIT dd98_3 rfl (kLtT hc) ?_
    refine zGo_s (pc' := 27) (st' := [.int x2]) dd98_26 rfl ?_
    rcases oite h with ⟨hc, h⟩ | ⟨hc, h⟩
    · refine zUT dd98_27 rfl (kLtT hc) ?_
      obtain rfl := ore0 h
      exact zGo_ret dd98_40 rfl rfl
    · refine zUF dd98_27 (kLtF hc) ?_
      refine zGo_s (pc' := 31) (st' := [.ref 1007]) dd98_30 rfl ?_
      refine cGF (e := 1009) dd98_31 rfl rfl rfl rfl rfl ?_
      refine cGF (e := 1010) dd98_34 rfl rfl rfl rfl rfl ?_
      refine zGo_s (pc' := 38) (st' := [.int x2, .ref 1010]) dd98_37 rfl ?_
      refine zGo_s (pc' := 39) (st' := [.int x3, .int x2, .ref 1010]) dd98_38 rfl ?_
      obtain ⟨hi, h⟩ := ochk h
      obtain ⟨u1, e_u1, h⟩ := olet h
      refine cIS dd98_39 rfl rfl hi e_u1 ?_
      obtain rfl := ore0 h
      exact zGo_ret dd98_40 rfl rfl
  · refine zIF dd98_3 (kLtF hc) ?_
    refine zGo_s (pc' := 7) (st' := [.ref x1]) dd98_6 rfl ?_
    refine cGF (e := (x1 + 2)) dd98_7 rfl (ck8_s hx1).1 (ck8_s hx1).2 rfl (cf8_2 hx1).1 ?_
    refine zGo_s (pc' := 11) (st' := [.int (3 : Int32), .ref (x1 + 2)]) dd98_10 rfl ?_
    refine zGo_s (pc' := 12) (st' := [.ref x1, .int (3 : Int32), .ref (x1 + 2)]) dd98_11 rfl ?_
    refine cGI dd98_12 rfl (ck8_s hx1).1 (ck8_s hx1).2 rfl ?_
    refine zGo_s (pc' := 16) (st' := [.int ((3 : Int32) * (s.1 x1 10)), .ref (x1 + 2)]) dd98_15 rfl ?_
    refine zGo_s (pc' := 17) (st' := [.int x2, .int ((3 : Int32) * (s.1 x1 10)), .ref (x1 + 2)]) dd98_16 rfl ?_
    refine zGo_s (pc' := 18) (st' := [.int (((3 : Int32) * (s.1 x1 10)) + x2), .ref (x1 + 2)]) dd98_17 rfl ?_
    refine zGo_s (pc' := 20) (st' := [.int (8 : Int32), .int (((3 : Int32) * (s.1 x1 10)) + x2), .ref (x1 + 2)]) dd98_18 rfl ?_
    refine zGo_s (pc' := 21) (st' := [.int ((((3 : Int32) * (s.1 x1 10)) + x2) - (8 : Int32)), .ref (x1 + 2)]) dd98_20 rfl ?_
    refine zGo_s (pc' := 22) (st' := [.int x3, .int ((((3 : Int32) * (s.1 x1 10)) + x2) - (8 : Int32)), .ref (x1 + 2)]) dd98_21 rfl ?_
    obtain ⟨hi, h⟩ := ochk h
    obtain ⟨u2, e_u2, h⟩ := olet h
    refine cIS dd98_22 (cf8_2 hx1).2.1 (cf8_2 hx1).2.2 hi e_u2 ?_
    refine zGo_s (pc' := 40) (st' := []) dd98_23 rfl ?_
    obtain rfl := ore0 h
    exact zGo_ret dd98_40 rfl rfl
/-! PH$Store.setItem(III)I -/
theorem dd99_0 : decode cX7_setItem 0 = .ok (.aload_n 0, 1) := by decide +kernel
theorem dd99_1 : decode cX7_setItem 1 = .ok (.iload_n 1, 1) := by decide +kernel
theorem dd99_2 : decode cX7_setItem 2 = .ok (.iload_n 2, 1) := by decide +kernel
theorem dd99_3 : decode cX7_setItem 3 = .ok (.invokevirtual 40, 3) := by decide +kernel
theorem dd99_6 : decode cX7_setItem 6 = .ok (.istore 4, 2) := by decide +kernel
theorem dd99_8 : decode cX7_setItem 8 = .ok (.iload 4, 2) := by decide +kernel
theorem dd99_10 : decode cX7_setItem 10 = .ok (.ifCond .ne 20, 3) := by decide +kernel
theorem dd99_13 : decode cX7_setItem 13 = .ok (.aload_n 0, 1) := by decide +kernel
theorem dd99_14 : decode cX7_setItem 14 = .ok (.getfield 21, 3) := by decide +kernel
theorem dd99_17 : decode cX7_setItem 17 = .ok (.aload_n 0, 1) := by decide +kernel
theorem dd99_18 : decode cX7_setItem 18 = .ok (.getfield 15, 3) := by decide +kernel
theorem dd99_21 : decode cX7_setItem 21 = .ok (.iload_n 1, 1) := by decide +kernel
theorem dd99_22 : decode cX7_setItem 22 = .ok (.iaload, 1) := by decide +kernel
theorem dd99_23 : decode cX7_setItem 23 = .ok (.bipush 20, 2) := by decide +kernel
theorem dd99_25 : decode cX7_setItem 25 = .ok (.imul, 1) := by decide +kernel
theorem dd99_26 : decode cX7_setItem 26 = .ok (.iload_n 2, 1) := by decide +kernel
theorem dd99_27 : decode cX7_setItem 27 = .ok (.iadd, 1) := by decide +kernel
theorem dd99_28 : decode cX7_setItem 28 = .ok (.iload_n 3, 1) := by decide +kernel
theorem dd99_29 : decode cX7_setItem 29 = .ok (.iastore, 1) := by decide +kernel
theorem dd99_30 : decode cX7_setItem 30 = .ok (.iload 4, 2) := by decide +kernel
theorem dd99_32 : decode cX7_setItem 32 = .ok (.ireturn, 1) := by decide +kernel
def f99 (n : Nat) (x1 : Int32) (x2 : Int32) (x3 : Int32) (s : zσ) : Option (Int32 × zσ) :=
    yb1 (f94 n x1 x2 s) fun v2 u1 =>
    if v2 = (0 : Int32) then
    if zin? x1 4 = true then
    if zin? (((u1.1 1011 (nx x1)) * (20 : Int32)) + x2) 80 = true then
    zlet (sI u1 1013 (nx (((u1.1 1011 (nx x1)) * (20 : Int32)) + x2)) x3) fun u3 =>
    some (v2, u3)
    else none
    else none
    else some (v2, u1)
set_option maxRecDepth 20000 in
theorem f99_ok {n d : Nat} {x1 : Int32} {x2 : Int32} {x3 : Int32} {s : zσ} {v : Int32} {s2 : zσ} (hd : 1 ≤ d) (h : f99 n x1 x2 x3 s = some (v, s2)) {w : zσ} {fz : Bool} {L : Nat} {xs : Nat → Int32} : zGo (zX fz L xs) d q_99 (0, [(0, .ref 1009), (1, .int x1), (2, .int x2), (3, .int x3)], [], zmk s w, 0, 0) (some (.int v), zmk s2 w, 0, 0) := by
  obtain ⟨d, rfl⟩ : ∃ d0, d = d0 + 1 := ⟨d - 1, by omega⟩
  unfold f99 at h
  refine zGo_s (pc' := 1) (st' := [.ref 1009]) dd99_0 rfl ?_
  refine zGo_s (pc' := 2) (st' := [.int x1, .ref 1009]) dd99_1 rfl ?_
  refine zGo_s (pc' := 3) (st' := [.int x2, .int x1, .ref 1009]) dd99_2 rfl ?_
  obtain ⟨v2, u1, hq, h⟩ := obnd h
  refine zCV1 (As := [.int x1, .int x2]) (rest := []) (b := 1009) (q' := q_94) dd99_3 rfl rfl (rcv_c rfl rfl (by decide)) rfl rfl rfl (f94_ok (d := d) (by omega)  hq) ?_
  refine zGo_s (pc' := 8) (st' := []) (lv' := [(4, .int v2), (0, .ref 1009), (1, .int x1), (2, .int x2), (3, .int x3)]) dd99_6 rfl ?_
  refine zGo_s (pc' := 10) (st' := [.int v2]) dd99_8 rfl ?_
  rcases oite h with ⟨hc, h⟩ | ⟨hc, h⟩
  · refine zUF dd99_10 (kNeF hc) ?_
    refine zGo_s (pc' := 14) (st' := [.ref 1009]) dd99_13 rfl ?_
    refine cGF (e := 1013) dd99_14 rfl rfl rfl rfl rfl ?_
    refine zGo_s (pc' := 18) (st' := [.ref 1009, .ref 1013]) dd99_17 rfl ?_
    refine cGF (e := 1011) dd99_18 rfl rfl rfl rfl rfl ?_
    refine zGo_s (pc' := 22) (st' := [.int x1, .ref 1011, .ref 1013]) dd99_21 rfl ?_
    obtain ⟨hi, h⟩ := ochk h
    refine cIA dd99_22 rfl rfl hi ?_
    refine zGo_s (pc' := 25) (st' := [.int (20 : Int32), .int (u1.1 1011 (nx x1)), .ref 1013]) dd99_23 rfl ?_
    refine zGo_s (pc' := 26) (st' := [.int ((u1.1 1011 (nx x1)) * (20 : Int32)), .ref 1013]) dd99_25 rfl ?_
    refine zGo_s (pc' := 27) (st' := [.int x2, .int ((u1.1 1011 (nx x1)) * (20 : Int32)), .ref 1013]) dd99_26 rfl ?_
    refine zGo_s (pc' := 28) (st' := [.int (((u1.1 1011 (nx x1)) * (20 : Int32)) + x2), .ref 1013]) dd99_27 rfl ?_
    refine zGo_s (pc' := 29) (st' := [.int x3, .int (((u1.1 1011 (nx x1)) * (20 : Int32)) + x2), .ref 1013]) dd99_28 rfl ?_
    obtain ⟨hi, h⟩ := ochk h
    obtain ⟨u3, e_u3, h⟩ := olet h
    refine cIS dd99_29 rfl rfl hi e_u3 ?_
    refine zGo_s (pc' := 32) (st' := [.int v2]) dd99_30 rfl ?_
    obtain ⟨rfl, rfl⟩ := oret h
    exact zGo_ret dd99_32 rfl rfl
  · refine zUT dd99_10 rfl (kNeT hc) ?_
    refine zGo_s (pc' := 32) (st' := [.int v2]) dd99_30 rfl ?_
    obtain ⟨rfl, rfl⟩ := oret h
    exact zGo_ret dd99_32 rfl rfl
/-! PH$Store.isUsed(I)Z -/
theorem dd101_0 : decode cX7_isUsed 0 = .ok (.aload_n 0, 1) := by decide +kernel
theorem dd101_1 : decode cX7_isUsed 1 = .ok (.getfield 15, 3) := by decide +kernel
theorem dd101_4 : decode cX7_isUsed 4 = .ok (.iconst 0, 1) := by decide +kernel
theorem dd101_5 : decode cX7_isUsed 5 = .ok (.iaload, 1) := by decide +kernel
theorem dd101_6 : decode cX7_isUsed 6 = .ok (.iload_n 1, 1) := by decide +kernel
theorem dd101_7 : decode cX7_isUsed 7 = .ok (.if_icmp .eq 33, 3) := by decide +kernel
theorem dd101_10 : decode cX7_isUsed 10 = .ok (.aload_n 0, 1) := by decide +kernel
theorem dd101_11 : decode cX7_isUsed 11 = .ok (.getfield 15, 3) := by decide +kernel
theorem dd101_14 : decode cX7_isUsed 14 = .ok (.iconst 1, 1) := by decide +kernel
theorem dd101_15 : decode cX7_isUsed 15 = .ok (.iaload, 1) := by decide +kernel
theorem dd101_16 : decode cX7_isUsed 16 = .ok (.iload_n 1, 1) := by decide +kernel
theorem dd101_17 : decode cX7_isUsed 17 = .ok (.if_icmp .eq 23, 3) := by decide +kernel
theorem dd101_20 : decode cX7_isUsed 20 = .ok (.aload_n 0, 1) := by decide +kernel
theorem dd101_21 : decode cX7_isUsed 21 = .ok (.getfield 15, 3) := by decide +kernel
theorem dd101_24 : decode cX7_isUsed 24 = .ok (.iconst 2, 1) := by decide +kernel
theorem dd101_25 : decode cX7_isUsed 25 = .ok (.iaload, 1) := by decide +kernel
theorem dd101_26 : decode cX7_isUsed 26 = .ok (.iload_n 1, 1) := by decide +kernel
theorem dd101_27 : decode cX7_isUsed 27 = .ok (.if_icmp .eq 13, 3) := by decide +kernel
theorem dd101_30 : decode cX7_isUsed 30 = .ok (.aload_n 0, 1) := by decide +kernel
theorem dd101_31 : decode cX7_isUsed 31 = .ok (.getfield 15, 3) := by decide +kernel
theorem dd101_34 : decode cX7_isUsed 34 = .ok (.iconst 3, 1) := by decide +kernel
theorem dd101_35 : decode cX7_isUsed 35 = .ok (.iaload, 1) := by decide +kernel
theorem dd101_36 : decode cX7_isUsed 36 = .ok (.iload_n 1, 1) := by decide +kernel
theorem dd101_37 : decode cX7_isUsed 37 = .ok (.if_icmp .ne 7, 3) := by decide +kernel
theorem dd101_40 : decode cX7_isUsed 40 = .ok (.iconst 1, 1) := by decide +kernel
theorem dd101_41 : decode cX7_isUsed 41 = .ok (.goto 4, 3) := by decide +kernel
theorem dd101_44 : decode cX7_isUsed 44 = .ok (.iconst 0, 1) := by decide +kernel
theorem dd101_45 : decode cX7_isUsed 45 = .ok (.ireturn, 1) := by decide +kernel
def f101_40 (n : Nat) (s : zσ) : Option (Int32 × zσ) :=
    some ((1 : Int32), s)
set_option maxRecDepth 20000 in
theorem f101_40_ok {n d : Nat} {s : zσ} {v : Int32} {s2 : zσ} (hd : 0 ≤ d) (h : f101_40 n s = some (v, s2)) {w : zσ} {fz : Bool} {L : Nat} {xs : Nat → Int32} : zGo (zX fz L xs) d q_101 (40, [], [], zmk s w, 0, 0) (some (.int v), zmk s2 w, 0, 0) := by
  unfold f101_40 at h
  refine zGo_s (pc' := 41) (st' := [.int (1 : Int32)]) dd101_40 rfl ?_
  refine zGo_s (pc' := 45) (st' := [.int (1 : Int32)]) dd101_41 rfl ?_
  obtain ⟨rfl, rfl⟩ := oret h
  exact zGo_ret dd101_45 rfl rfl
def f101 (n : Nat) (x1 : Int32) (s : zσ) : Option (Int32 × zσ) :=
    if zin? (0 : Int32) 4 = true then
    if (s.1 1011 (nx (0 : Int32))) = x1 then
    f101_40 n s
    else if zin? (1 : Int32) 4 = true then
    if (s.1 1011 (nx (1 : Int32))) = x1 then
    f101_40 n s
    else if zin? (2 : Int32) 4 = true then
    if (s.1 1011 (nx (2 : Int32))) = x1 then
    f101_40 n s
    else if zin? (3 : Int32) 4 = true then
    if (s.1 1011 (nx (3 : Int32))) = x1 then
    f101_40 n s
    else some ((0 : Int32), s)
    else none
    else none
    else none
    else none
set_option maxRecDepth 20000 in
theorem f101_ok {n d : Nat} {x1 : Int32} {s : zσ} {v : Int32} {s2 : zσ} (hd : 0 ≤ d) (h : f101 n x1 s = some (v, s2)) {w : zσ} {fz : Bool} {L : Nat} {xs : Nat → Int32} : zGo (zX fz L xs) d q_101 (0, [(0, .ref 1009), (1, .int x1)], [], zmk s w, 0, 0) (some (.int v), zmk s2 w, 0, 0) := by
  unfold f101 at h
  refine zGo_s (pc' := 1) (st' := [.ref 1009]) dd101_0 rfl ?_
  refine cGF (e := 1011) dd101_1 rfl rfl rfl rfl rfl ?_
  refine zGo_s (pc' := 5) (st' := [.int (0 : Int32), .ref 1011]) dd101_4 rfl ?_
  obtain ⟨hi, h⟩ := ochk h
  refine cIA dd101_5 rfl rfl hi ?_
  refine zGo_s (pc' := 7) (st' := [.int x1, .int (s.1 1011 (nx (0 : Int32)))]) dd101_6 rfl ?_
  rcases oite h with ⟨hc, h⟩ | ⟨hc, h⟩
  · refine zIT dd101_7 rfl (kEqT hc) ?_
    exact zGo_lv (lv := []) ⟨by simp, by simp, by simp⟩ (f101_40_ok hd h)
  · refine zIF dd101_7 (kEqF hc) ?_
    refine zGo_s (pc' := 11) (st' := [.ref 1009]) dd101_10 rfl ?_
    refine cGF (e := 1011) dd101_11 rfl rfl rfl rfl rfl ?_
    refine zGo_s (pc' := 15) (st' := [.int (1 : Int32), .ref 1011]) dd101_14 rfl ?_
    obtain ⟨hi, h⟩ := ochk h
    refine cIA dd101_15 rfl rfl hi ?_
    refine zGo_s (pc' := 17) (st' := [.int x1, .int (s.1 1011 (nx (1 : Int32)))]) dd101_16 rfl ?_
    rcases oite h with ⟨hc, h⟩ | ⟨hc, h⟩
    · refine zIT dd101_17 rfl (kEqT hc) ?_
      exact zGo_lv (lv := []) ⟨by simp, by simp, by simp⟩ (f101_40_ok hd h)
    · refine zIF dd101_17 (kEqF hc) ?_
      refine zGo_s (pc' := 21) (st' := [.ref 1009]) dd101_20 rfl ?_
      refine cGF (e := 1011) dd101_21 rfl rfl rfl rfl rfl ?_
      refine zGo_s (pc' := 25) (st' := [.int (2 : Int32), .ref 1011]) dd101_24 rfl ?_
      obtain ⟨hi, h⟩ := ochk h
      refine cIA dd101_25 rfl rfl hi ?_
      refine zGo_s (pc' := 27) (st' := [.int x1, .int (s.1 1011 (nx (2 : Int32)))]) dd101_26 rfl ?_
      rcases oite h with ⟨hc, h⟩ | ⟨hc, h⟩
      · refine zIT dd101_27 rfl (kEqT hc) ?_
        exact zGo_lv (lv := []) ⟨by simp, by simp, by simp⟩ (f101_40_ok hd h)
      · refine zIF dd101_27 (kEqF hc) ?_
        refine zGo_s (pc' := 31) (st' := [.ref 1009]) dd101_30 rfl ?_
        refine cGF (e := 1011) dd101_31 rfl rfl rfl rfl rfl ?_
        refine zGo_s (pc' := 35) (st' := [.int (3 : Int32), .ref 1011]) dd101_34 rfl ?_
        obtain ⟨hi, h⟩ := ochk h
        refine cIA dd101_35 rfl rfl hi ?_
        refine zGo_s (pc' := 37) (st' := [.int x1, .int (s.1 1011 (nx (3 : Int32)))]) dd101_36 rfl ?_
        rcases oite h with ⟨hc, h⟩ | ⟨hc, h⟩
        · refine zIF dd101_37 (kNeF hc) ?_
          exact zGo_lv (lv := []) ⟨by simp, by simp, by simp⟩ (f101_40_ok hd h)
        · refine zIT dd101_37 rfl (kNeT hc) ?_
          refine zGo_s (pc' := 45) (st' := [.int (0 : Int32)]) dd101_44 rfl ?_
          obtain ⟨rfl, rfl⟩ := oret h
          exact zGo_ret dd101_45 rfl rfl
/-! PH$Store.make(II)I -/
theorem dd100_0 : decode cX7_make 0 = .ok (.iload_n 2, 1) := by decide +kernel
theorem dd100_1 : decode cX7_make 1 = .ok (.ifCond .lt 19, 3) := by decide +kernel
theorem dd100_4 : decode cX7_make 4 = .ok (.iload_n 2, 1) := by decide +kernel
theorem dd100_5 : decode cX7_make 5 = .ok (.bipush 20, 2) := by decide +kernel
theorem dd100_7 : decode cX7_make 7 = .ok (.if_icmp .gt 13, 3) := by decide +kernel
theorem dd100_10 : decode cX7_make 10 = .ok (.aload_n 0, 1) := by decide +kernel
theorem dd100_11 : decode cX7_make 11 = .ok (.getfield 24, 3) := by decide +kernel
theorem dd100_14 : decode cX7_make 14 = .ok (.sipush 4000, 3) := by decide +kernel
theorem dd100_17 : decode cX7_make 17 = .ok (.if_icmp .lt 5, 3) := by decide +kernel
theorem dd100_20 : decode cX7_make 20 = .ok (.iconst 3, 1) := by decide +kernel
theorem dd100_21 : decode cX7_make 21 = .ok (.ireturn, 1) := by decide +kernel
theorem dd100_22 : decode cX7_make 22 = .ok (.aload_n 0, 1) := by decide +kernel
theorem dd100_23 : decode cX7_make 23 = .ok (.dup, 1) := by decide +kernel
theorem dd100_24 : decode cX7_make 24 = .ok (.getfield 24, 3) := by decide +kernel
theorem dd100_27 : decode cX7_make 27 = .ok (.iconst 1, 1) := by decide +kernel
theorem dd100_28 : decode cX7_make 28 = .ok (.iadd, 1) := by decide +kernel
theorem dd100_29 : decode cX7_make 29 = .ok (.putfield 24, 3) := by decide +kernel
theorem dd100_32 : decode cX7_make 32 = .ok (.aload_n 0, 1) := by decide +kernel
theorem dd100_33 : decode cX7_make 33 = .ok (.getfield 15, 3) := by decide +kernel
theorem dd100_36 : decode cX7_make 36 = .ok (.iload_n 1, 1) := by decide +kernel
theorem dd100_37 : decode cX7_make 37 = .ok (.iconst (-1), 1) := by decide +kernel
theorem dd100_38 : decode cX7_make 38 = .ok (.iastore, 1) := by decide +kernel
theorem dd100_39 : decode cX7_make 39 = .ok (.iconst 0, 1) := by decide +kernel
theorem dd100_40 : decode cX7_make 40 = .ok (.istore_n 3, 1) := by decide +kernel
theorem dd100_41 : decode cX7_make 41 = .ok (.iconst 0, 1) := by decide +kernel
theorem dd100_42 : decode cX7_make 42 = .ok (.istore 4, 2) := by decide +kernel
theorem dd100_44 : decode cX7_make 44 = .ok (.iload 4, 2) := by decide +kernel
theorem dd100_46 : decode cX7_make 46 = .ok (.iconst 3, 1) := by decide +kernel
theorem dd100_47 : decode cX7_make 47 = .ok (.if_icmp .ge 20, 3) := by decide +kernel
theorem dd100_50 : decode cX7_make 50 = .ok (.aload_n 0, 1) := by decide +kernel
theorem dd100_51 : decode cX7_make 51 = .ok (.iload_n 3, 1) := by decide +kernel
theorem dd100_52 : decode cX7_make 52 = .ok (.invokevirtual 44, 3) := by decide +kernel
theorem dd100_55 : decode cX7_make 55 = .ok (.ifCond .eq 12, 3) := by decide +kernel
theorem dd100_58 : decode cX7_make 58 = .ok (.iinc 3 1, 3) := by decide +kernel
theorem dd100_61 : decode cX7_make 61 = .ok (.iinc 4 1, 3) := by decide +kernel
theorem dd100_64 : decode cX7_make 64 = .ok (.goto (-20), 3) := by decide +kernel
theorem dd100_67 : decode cX7_make 67 = .ok (.aload_n 0, 1) := by decide +kernel
theorem dd100_68 : decode cX7_make 68 = .ok (.getfield 15, 3) := by decide +kernel
theorem dd100_71 : decode cX7_make 71 = .ok (.iload_n 1, 1) := by decide +kernel
theorem dd100_72 : decode cX7_make 72 = .ok (.iload_n 3, 1) := by decide +kernel
theorem dd100_73 : decode cX7_make 73 = .ok (.iastore, 1) := by decide +kernel
theorem dd100_74 : decode cX7_make 74 = .ok (.aload_n 0, 1) := by decide +kernel
theorem dd100_75 : decode cX7_make 75 = .ok (.getfield 18, 3) := by decide +kernel
theorem dd100_78 : decode cX7_make 78 = .ok (.iload_n 3, 1) := by decide +kernel
theorem dd100_79 : decode cX7_make 79 = .ok (.iload_n 2, 1) := by decide +kernel
theorem dd100_80 : decode cX7_make 80 = .ok (.iastore, 1) := by decide +kernel
theorem dd100_81 : decode cX7_make 81 = .ok (.aload_n 0, 1) := by decide +kernel
theorem dd100_82 : decode cX7_make 82 = .ok (.getfield 21, 3) := by decide +kernel
theorem dd100_85 : decode cX7_make 85 = .ok (.iload_n 3, 1) := by decide +kernel
theorem dd100_86 : decode cX7_make 86 = .ok (.bipush 20, 2) := by decide +kernel
theorem dd100_88 : decode cX7_make 88 = .ok (.imul, 1) := by decide +kernel
theorem dd100_89 : decode cX7_make 89 = .ok (.iload_n 3, 1) := by decide +kernel
theorem dd100_90 : decode cX7_make 90 = .ok (.bipush 20, 2) := by decide +kernel
theorem dd100_92 : decode cX7_make 92 = .ok (.imul, 1) := by decide +kernel
theorem dd100_93 : decode cX7_make 93 = .ok (.iload_n 2, 1) := by decide +kernel
theorem dd100_94 : decode cX7_make 94 = .ok (.iadd, 1) := by decide +kernel
theorem dd100_95 : decode cX7_make 95 = .ok (.iconst 0, 1) := by decide +kernel
theorem dd100_96 : decode cX7_make 96 = .ok (.invokestatic 48, 3) := by decide +kernel
theorem dd100_99 : decode cX7_make 99 = .ok (.iconst 0, 1) := by decide +kernel
theorem dd100_100 : decode cX7_make 100 = .ok (.ireturn, 1) := by decide +kernel
def f100_67 (n : Nat) (x1 : Int32) (x2 : Int32) (x3 : Int32) (s : zσ) : Option (Int32 × zσ) :=
    if zin? x1 4 = true then
    zlet (sI s 1011 (nx x1) x3) fun u1 =>
    if zin? x3 4 = true then
    zlet (sI u1 1012 (nx x3) x2) fun u2 =>
    if zrgo (x3 * (20 : Int32)) ((x3 * (20 : Int32)) + x2) 80 = true then
    zlet (sF u2 1013 (nx (x3 * (20 : Int32))) (nx ((x3 * (20 : Int32)) + x2)) (0 : Int32)) fun u3 =>
    some ((0 : Int32), u3)
    else none
    else none
    else none
set_option maxRecDepth 20000 in
theorem f100_67_ok {n d : Nat} {x1 : Int32} {x2 : Int32} {x3 : Int32} {s : zσ} {v : Int32} {s2 : zσ} (hd : 3 ≤ d) (h : f100_67 n x1 x2 x3 s = some (v, s2)) {w : zσ} {fz : Bool} {L : Nat} {xs : Nat → Int32} : zGo (zX fz L xs) d q_100 (67, [(0, .ref 1009), (1, .int x1), (2, .int x2), (3, .int x3)], [], zmk s w, 0, 0) (some (.int v), zmk s2 w, 0, 0) := by
  obtain ⟨d, rfl⟩ : ∃ d0, d = d0 + 1 := ⟨d - 1, by omega⟩
  unfold f100_67 at h
  refine zGo_s (pc' := 68) (st' := [.ref 1009]) dd100_67 rfl ?_
  refine cGF (e := 1011) dd100_68 rfl rfl rfl rfl rfl ?_
  refine zGo_s (pc' := 72) (st' := [.int x1, .ref 1011]) dd100_71 rfl ?_
  refine zGo_s (pc' := 73) (st' := [.int x3, .int x1, .ref 1011]) dd100_72 rfl ?_
  obtain ⟨hi, h⟩ := ochk h
  obtain ⟨u1, e_u1, h⟩ := olet h
  refine cIS dd100_73 rfl rfl hi e_u1 ?_
  refine zGo_s (pc' := 75) (st' := [.ref 1009]) dd100_74 rfl ?_
  refine cGF (e := 1012) dd100_75 rfl rfl rfl rfl rfl ?_
  refine zGo_s (pc' := 79) (st' := [.int x3, .ref 1012]) dd100_78 rfl ?_
  refine zGo_s (pc' := 80) (st' := [.int x2, .int x3, .ref 1012]) dd100_79 rfl ?_
  obtain ⟨hi, h⟩ := ochk h
  obtain ⟨u2, e_u2, h⟩ := olet h
  refine cIS dd100_80 rfl rfl hi e_u2 ?_
  refine zGo_s (pc' := 82) (st' := [.ref 1009]) dd100_81 rfl ?_
  refine cGF (e := 1013) dd100_82 rfl rfl rfl rfl rfl ?_
  refine zGo_s (pc' := 86) (st' := [.int x3, .ref 1013]) dd100_85 rfl ?_
  refine zGo_s (pc' := 88) (st' := [.int (20 : Int32), .int x3, .ref 1013]) dd100_86 rfl ?_
  refine zGo_s (pc' := 89) (st' := [.int (x3 * (20 : Int32)), .ref 1013]) dd100_88 rfl ?_
  refine zGo_s (pc' := 90) (st' := [.int x3, .int (x3 * (20 : Int32)), .ref 1013]) dd100_89 rfl ?_
  refine zGo_s (pc' := 92) (st' := [.int (20 : Int32), .int x3, .int (x3 * (20 : Int32)), .ref 1013]) dd100_90 rfl ?_
  refine zGo_s (pc' := 93) (st' := [.int (x3 * (20 : Int32)), .int (x3 * (20 : Int32)), .ref 1013]) dd100_92 rfl ?_
  refine zGo_s (pc' := 94) (st' := [.int x2, .int (x3 * (20 : Int32)), .int (x3 * (20 : Int32)), .ref 1013]) dd100_93 rfl ?_
  refine zGo_s (pc' := 95) (st' := [.int ((x3 * (20 : Int32)) + x2), .int (x3 * (20 : Int32)), .ref 1013]) dd100_94 rfl ?_
  refine zGo_s (pc' := 96) (st' := [.int (0 : Int32), .int ((x3 * (20 : Int32)) + x2), .int (x3 * (20 : Int32)), .ref 1013]) dd100_95 rfl ?_
  obtain ⟨hi, h⟩ := ochk h
  obtain ⟨u3, e_u3, h⟩ := olet h
  refine zCS0 (As := [.ref 1013, .int (x3 * (20 : Int32)), .int ((x3 * (20 : Int32)) + x2), .int (0 : Int32)]) (rest := []) (q' := q_102) dd100_96 rfl rfl rfl rfl rfl (g_fillrc rfl rfl (by decide) hi e_u3 (by omega)) ?_
  refine zGo_s (pc' := 100) (st' := [.int (0 : Int32)]) dd100_99 rfl ?_
  obtain ⟨rfl, rfl⟩ := oret h
  exact zGo_ret dd100_100 rfl rfl
def f100_44 (n : Nat) : Nat → Int32 → Int32 → Int32 → Int32 → zσ → Option (Int32 × zσ)
  | 0, _, _, _, _, _ => none
  | j + 1, x1, x2, x3, x4, s =>
    if x4 < (3 : Int32) then
    yb1 (f101 n x3 s) fun v2 u1 =>
    if v2 = (0 : Int32) then
    f100_67 n x1 x2 x3 u1
    else f100_44 n j x1 x2 (x3 + (1 : Int32)) (x4 + (1 : Int32)) u1
    else f100_67 n x1 x2 x3 s
set_option maxRecDepth 20000 in
theorem f100_44_ok {n d : Nat} (hd : 3 ≤ d) : ∀ (j : Nat) (x1 : Int32) (x2 : Int32) (x3 : Int32) (x4 : Int32) (s : zσ) (v : Int32) (s2 : zσ), f100_44 n j x1 x2 x3 x4 s = some (v, s2) → ∀ {w : zσ} {fz : Bool} {L : Nat} {xs : Nat → Int32}, zGo (zX fz L xs) d q_100 (44, [(0, .ref 1009), (1, .int x1), (2, .int x2), (3, .int x3), (4, .int x4)], [], zmk s w, 0, 0) (some (.int v), zmk s2 w, 0, 0) := by
  obtain ⟨d, rfl⟩ : ∃ d0, d = d0 + 1 := ⟨d - 1, by omega⟩
  intro j
  induction j with
  | zero => intro x1 x2 x3 x4 s v s2 h; cases h
  | succ j ih =>
    intro x1 x2 x3 x4 s v s2 h w fz L xs
    rw [f100_44] at h
    refine zGo_s (pc' := 46) (st' := [.int x4]) dd100_44 rfl ?_
    refine zGo_s (pc' := 47) (st' := [.int (3 : Int32), .int x4]) dd100_46 rfl ?_
    rcases oite h with ⟨hc, h⟩ | ⟨hc, h⟩
    · refine zIF dd100_47 (kGeF hc) ?_
      refine zGo_s (pc' := 51) (st' := [.ref 1009]) dd100_50 rfl ?_
      refine zGo_s (pc' := 52) (st' := [.int x3, .ref 1009]) dd100_51 rfl ?_
      obtain ⟨v2, u1, hq, h⟩ := obnd h
      refine zCV1 (As := [.int x3]) (rest := []) (b := 1009) (q' := q_101) dd100_52 rfl rfl (rcv_c rfl rfl (by decide)) rfl rfl rfl (f101_ok (d := d) (by omega)  hq) ?_
      rcases oite h with ⟨hc, h⟩ | ⟨hc, h⟩
      · refine zUT dd100_55 rfl (kEqT hc) ?_
        exact zGo_lv (lv := [(0, .ref 1009), (1, .int x1), (2, .int x2), (3, .int x3)]) ⟨by simp, by simp, by simp⟩ (f100_67_ok hd h)
      · refine zUF dd100_55 (kEqF hc) ?_
        refine zGo_s (pc' := 61) (st' := []) (lv' := [(3, .int (x3 + (1 : Int32))), (0, .ref 1009), (1, .int x1), (2, .int x2), (4, .int x4)]) dd100_58 rfl ?_
        refine zGo_s (pc' := 64) (st' := []) (lv' := [(4, .int (x4 + (1 : Int32))), (3, .int (x3 + (1 : Int32))), (0, .ref 1009), (1, .int x1), (2, .int x2)]) dd100_61 rfl ?_
        refine zGo_s (pc' := 44) (st' := []) dd100_64 rfl ?_
        exact zGo_lv (lv := [(0, .ref 1009), (1, .int x1), (2, .int x2), (3, .int (x3 + (1 : Int32))), (4, .int (x4 + (1 : Int32)))]) ⟨by simp, by simp, by simp⟩ (ih _ _ _ _ _ _ _ h)
    · refine zIT dd100_47 rfl (kGeT hc) ?_
      exact zGo_lv (lv := [(0, .ref 1009), (1, .int x1), (2, .int x2), (3, .int x3)]) ⟨by simp, by simp, by simp⟩ (f100_67_ok hd h)
def f100 (n : Nat) (x1 : Int32) (x2 : Int32) (s : zσ) : Option (Int32 × zσ) :=
    if x2 < (0 : Int32) then
    some ((3 : Int32), s)
    else if (20 : Int32) < x2 then
    some ((3 : Int32), s)
    else if (s.1 1009 4) < (4000 : Int32) then
    zlet (sI s 1009 4 ((s.1 1009 4) + (1 : Int32))) fun u1 =>
    if zin? x1 4 = true then
    zlet (sI u1 1011 (nx x1) (-1 : Int32)) fun u2 =>
    f100_44 n n x1 x2 (0 : Int32) (0 : Int32) u2
    else none
    else some ((3 : Int32), s)
set_option maxRecDepth 20000 in
theorem f100_ok {n d : Nat} {x1 : Int32} {x2 : Int32} {s : zσ} {v : Int32} {s2 : zσ} (hd : 3 ≤ d) (h : f100 n x1 x2 s = some (v, s2)) {w : zσ} {fz : Bool} {L : Nat} {xs : Nat → Int32} : zGo (zX fz L xs) d q_100 (0, [(0, .ref 1009), (1, .int x1), (2, .int x2)], [], zmk s w, 0, 0) (some (.int v), zmk s2 w, 0, 0) := by
  obtain ⟨d, rfl⟩ : ∃ d0, d = d0 + 1 := ⟨d - 1, by omega⟩
  unfold f100 at h
  refine zGo_s (pc' := 1) (st' := [.int x2]) dd100_0 rfl ?_
  rcases oite h with ⟨hc, h⟩ | ⟨hc, h⟩
  · refine zUT dd100_1 rfl (kLtT hc) ?_
    refine zGo_s (pc' := 21) (st' := [.int (3 : Int32)]) dd100_20 rfl ?_
    obtain ⟨rfl, rfl⟩ := oret h
    exact zGo_ret dd100_21 rfl rfl
  · refine zUF dd100_1 (kLtF hc) ?_
    refine zGo_s (pc' := 5) (st' := [.int x2]) dd100_4 rfl ?_
    refine zGo_s (pc' := 7) (st' := [.int (20 : Int32), .int x2]) dd100_5 rfl ?_
    rcases oite h with ⟨hc, h⟩ | ⟨hc, h⟩
    · refine zIT dd100_7 rfl (kGtT hc) ?_
      refine zGo_s (pc' := 21) (st' := [.int (3 : Int32)]) dd100_20 rfl ?_
      obtain ⟨rfl, rfl⟩ := oret h
      exact zGo_ret dd100_21 rfl rfl
    · refine zIF dd100_7 (kGtF hc) ?_
      refine zGo_s (pc' := 11) (st' := [.ref 1009]) dd100_10 rfl ?_
      refine cGI dd100_11 rfl rfl rfl rfl ?_
      refine zGo_s (pc' := 17) (st' := [.int (4000 : Int32), .int (s.1 1009 4)]) dd100_14 rfl ?_
      rcases oite h with ⟨hc, h⟩ | ⟨hc, h⟩
      · refine zIT dd100_17 rfl (kLtT hc) ?_
        refine zGo_s (pc' := 23) (st' := [.ref 1009]) dd100_22 rfl ?_
        refine zGo_s (pc' := 24) (st' := [.ref 1009, .ref 1009]) dd100_23 rfl ?_
        refine cGI dd100_24 rfl rfl rfl rfl ?_
        refine zGo_s (pc' := 28) (st' := [.int (1 : Int32), .int (s.1 1009 4), .ref 1009]) dd100_27 rfl ?_
        refine zGo_s (pc' := 29) (st' := [.int ((s.1 1009 4) + (1 : Int32)), .ref 1009]) dd100_28 rfl ?_
        obtain ⟨u1, e_u1, h⟩ := olet h
        refine cPI dd100_29 rfl rfl rfl rfl rfl rfl e_u1 ?_
        refine zGo_s (pc' := 33) (st' := [.ref 1009]) dd100_32 rfl ?_
        refine cGF (e := 1011) dd100_33 rfl rfl rfl rfl rfl ?_
        refine zGo_s (pc' := 37) (st' := [.int x1, .ref 1011]) dd100_36 rfl ?_
        refine zGo_s (pc' := 38) (st' := [.int (-1 : Int32), .int x1, .ref 1011]) dd100_37 rfl ?_
        obtain ⟨hi, h⟩ := ochk h
        obtain ⟨u2, e_u2, h⟩ := olet h
        refine cIS dd100_38 rfl rfl hi e_u2 ?_
        refine zGo_s (pc' := 40) (st' := [.int (0 : Int32)]) dd100_39 rfl ?_
        refine zGo_s (pc' := 41) (st' := []) (lv' := [(3, .int (0 : Int32)), (0, .ref 1009), (1, .int x1), (2, .int x2)]) dd100_40 rfl ?_
        refine zGo_s (pc' := 42) (st' := [.int (0 : Int32)]) dd100_41 rfl ?_
        refine zGo_s (pc' := 44) (st' := []) (lv' := [(4, .int (0 : Int32)), (3, .int (0 : Int32)), (0, .ref 1009), (1, .int x1), (2, .int x2)]) dd100_42 rfl ?_
        exact zGo_lv (lv := [(0, .ref 1009), (1, .int x1), (2, .int x2), (3, .int (0 : Int32)), (4, .int (0 : Int32))]) ⟨by simp, by simp, by simp⟩ (f100_44_ok hd _ _ _ _ _ _ _ _ h)
      · refine zIF dd100_17 (kLtF hc) ?_
        refine zGo_s (pc' := 21) (st' := [.int (3 : Int32)]) dd100_20 rfl ?_
        obtain ⟨rfl, rfl⟩ := oret h
        exact zGo_ret dd100_21 rfl rfl
/-! PH$Diary.note(I)I -/
theorem dd104_0 : decode cX1_note 0 = .ok (.aload_n 0, 1) := by decide +kernel
theorem dd104_1 : decode cX1_note 1 = .ok (.getfield 18, 3) := by decide +kernel
theorem dd104_4 : decode cX1_note 4 = .ok (.sipush 200, 3) := by decide +kernel
theorem dd104_7 : decode cX1_note 7 = .ok (.if_icmp .ge 13, 3) := by decide +kernel
theorem dd104_10 : decode cX1_note 10 = .ok (.aload_n 0, 1) := by decide +kernel
theorem dd104_11 : decode cX1_note 11 = .ok (.getfield 9, 3) := by decide +kernel
theorem dd104_14 : decode cX1_note 14 = .ok (.aload_n 0, 1) := by decide +kernel
theorem dd104_15 : decode cX1_note 15 = .ok (.getfield 18, 3) := by decide +kernel
theorem dd104_18 : decode cX1_note 18 = .ok (.iload_n 1, 1) := by decide +kernel
theorem dd104_19 : decode cX1_note 19 = .ok (.iastore, 1) := by decide +kernel
theorem dd104_20 : decode cX1_note 20 = .ok (.aload_n 0, 1) := by decide +kernel
theorem dd104_21 : decode cX1_note 21 = .ok (.dup, 1) := by decide +kernel
theorem dd104_22 : decode cX1_note 22 = .ok (.getfield 18, 3) := by decide +kernel
theorem dd104_25 : decode cX1_note 25 = .ok (.iconst 1, 1) := by decide +kernel
theorem dd104_26 : decode cX1_note 26 = .ok (.iadd, 1) := by decide +kernel
theorem dd104_27 : decode cX1_note 27 = .ok (.putfield 18, 3) := by decide +kernel
theorem dd104_30 : decode cX1_note 30 = .ok (.iconst 0, 1) := by decide +kernel
theorem dd104_31 : decode cX1_note 31 = .ok (.ireturn, 1) := by decide +kernel
def f104_20 (n : Nat) (s : zσ) : Option (Int32 × zσ) :=
    zlet (sI s 1030 2 ((s.1 1030 2) + (1 : Int32))) fun u1 =>
    some ((0 : Int32), u1)
set_option maxRecDepth 20000 in
theorem f104_20_ok {n d : Nat} {s : zσ} {v : Int32} {s2 : zσ} (hd : 0 ≤ d) (h : f104_20 n s = some (v, s2)) {w : zσ} {fz : Bool} {L : Nat} {xs : Nat → Int32} : zGo (zX fz L xs) d q_104 (20, [(0, .ref 1030)], [], zmk s w, 0, 0) (some (.int v), zmk s2 w, 0, 0) := by
  unfold f104_20 at h
  refine zGo_s (pc' := 21) (st' := [.ref 1030]) dd104_20 rfl ?_
  refine zGo_s (pc' := 22) (st' := [.ref 1030, .ref 1030]) dd104_21 rfl ?_
  refine cGI dd104_22 rfl rfl rfl rfl ?_
  refine zGo_s (pc' := 26) (st' := [.int (1 : Int32), .int (s.1 1030 2), .ref 1030]) dd104_25 rfl ?_
  refine zGo_s (pc' := 27) (st' := [.int ((s.1 1030 2) + (1 : Int32)), .ref 1030]) dd104_26 rfl ?_
  obtain ⟨u1, e_u1, h⟩ := olet h
  refine cPI dd104_27 rfl rfl rfl rfl rfl rfl e_u1 ?_
  refine zGo_s (pc' := 31) (st' := [.int (0 : Int32)]) dd104_30 rfl ?_
  obtain ⟨rfl, rfl⟩ := oret h
  exact zGo_ret dd104_31 rfl rfl
def f104 (n : Nat) (x1 : Int32) (s : zσ) : Option (Int32 × zσ) :=
    if (s.1 1030 2) < (200 : Int32) then
    if zin? (s.1 1030 2) 200 = true then
    zlet (sI s 1031 (nx (s.1 1030 2)) x1) fun u1 =>
    f104_20 n u1
    else none
    else f104_20 n s
set_option maxRecDepth 20000 in
theorem f104_ok {n d : Nat} {x1 : Int32} {s : zσ} {v : Int32} {s2 : zσ} (hd : 0 ≤ d) (h : f104 n x1 s = some (v, s2)) {w : zσ} {fz : Bool} {L : Nat} {xs : Nat → Int32} : zGo (zX fz L xs) d q_104 (0, [(0, .ref 1030), (1, .int x1)], [], zmk s w, 0, 0) (some (.int v), zmk s2 w, 0, 0) := by
  unfold f104 at h
  refine zGo_s (pc' := 1) (st' := [.ref 1030]) dd104_0 rfl ?_
  refine cGI dd104_1 rfl rfl rfl rfl ?_
  refine zGo_s (pc' := 7) (st' := [.int (200 : Int32), .int (s.1 1030 2)]) dd104_4 rfl ?_
  rcases oite h with ⟨hc, h⟩ | ⟨hc, h⟩
  · refine zIF dd104_7 (kGeF hc) ?_
    refine zGo_s (pc' := 11) (st' := [.ref 1030]) dd104_10 rfl ?_
    refine cGF (e := 1031) dd104_11 rfl rfl rfl rfl rfl ?_
    refine zGo_s (pc' := 15) (st' := [.ref 1030, .ref 1031]) dd104_14 rfl ?_
    refine cGI dd104_15 rfl rfl rfl rfl ?_
    refine zGo_s (pc' := 19) (st' := [.int x1, .int (s.1 1030 2), .ref 1031]) dd104_18 rfl ?_
    obtain ⟨hi, h⟩ := ochk h
    obtain ⟨u1, e_u1, h⟩ := olet h
    refine cIS dd104_19 rfl rfl hi e_u1 ?_
    exact zGo_lv (lv := [(0, .ref 1030)]) ⟨by simp, by simp, by simp⟩ (f104_20_ok hd h)
  · refine zIT dd104_7 rfl (kGeT hc) ?_
    exact zGo_lv (lv := [(0, .ref 1030)]) ⟨by simp, by simp, by simp⟩ (f104_20_ok hd h)
/-! PH$Machine.enterProc(LPH$Task;I)I -/
theorem dd105_0 : decode cX3_enterProc 0 = .ok (.aload_n 1, 1) := by decide +kernel
theorem dd105_1 : decode cX3_enterProc 1 = .ok (.getfield 186, 3) := by decide +kernel
theorem dd105_4 : decode cX3_enterProc 4 = .ok (.bipush 8, 2) := by decide +kernel
theorem dd105_6 : decode cX3_enterProc 6 = .ok (.if_icmp .lt 6, 3) := by decide +kernel
theorem dd105_9 : decode cX3_enterProc 9 = .ok (.bipush 6, 2) := by decide +kernel
theorem dd105_11 : decode cX3_enterProc 11 = .ok (.ireturn, 1) := by decide +kernel
theorem dd105_12 : decode cX3_enterProc 12 = .ok (.aload_n 1, 1) := by decide +kernel
theorem dd105_13 : decode cX3_enterProc 13 = .ok (.dup, 1) := by decide +kernel
theorem dd105_14 : decode cX3_enterProc 14 = .ok (.getfield 186, 3) := by decide +kernel
theorem dd105_17 : decode cX3_enterProc 17 = .ok (.iconst 1, 1) := by decide +kernel
theorem dd105_18 : decode cX3_enterProc 18 = .ok (.iadd, 1) := by decide +kernel
theorem dd105_19 : decode cX3_enterProc 19 = .ok (.putfield 186, 3) := by decide +kernel
theorem dd105_22 : decode cX3_enterProc 22 = .ok (.aload_n 0, 1) := by decide +kernel
theorem dd105_23 : decode cX3_enterProc 23 = .ok (.getfield 45, 3) := by decide +kernel
theorem dd105_26 : decode cX3_enterProc 26 = .ok (.iconst 0, 1) := by decide +kernel
theorem dd105_27 : decode cX3_enterProc 27 = .ok (.aload_n 1, 1) := by decide +kernel
theorem dd105_28 : decode cX3_enterProc 28 = .ok (.getfield 231, 3) := by decide +kernel
theorem dd105_31 : decode cX3_enterProc 31 = .ok (.iconst 3, 1) := by decide +kernel
theorem dd105_32 : decode cX3_enterProc 32 = .ok (.aload_n 1, 1) := by decide +kernel
theorem dd105_33 : decode cX3_enterProc 33 = .ok (.getfield 186, 3) := by decide +kernel
theorem dd105_36 : decode cX3_enterProc 36 = .ok (.imul, 1) := by decide +kernel
theorem dd105_37 : decode cX3_enterProc 37 = .ok (.iconst 3, 1) := by decide +kernel
theorem dd105_38 : decode cX3_enterProc 38 = .ok (.invokestatic 314, 3) := by decide +kernel
theorem dd105_41 : decode cX3_enterProc 41 = .ok (.aload_n 0, 1) := by decide +kernel
theorem dd105_42 : decode cX3_enterProc 42 = .ok (.getfield 41, 3) := by decide +kernel
theorem dd105_45 : decode cX3_enterProc 45 = .ok (.dup, 1) := by decide +kernel
theorem dd105_46 : decode cX3_enterProc 46 = .ok (.getfield 148, 3) := by decide +kernel
theorem dd105_49 : decode cX3_enterProc 49 = .ok (.iconst 1, 1) := by decide +kernel
theorem dd105_50 : decode cX3_enterProc 50 = .ok (.iadd, 1) := by decide +kernel
theorem dd105_51 : decode cX3_enterProc 51 = .ok (.putfield 148, 3) := by decide +kernel
theorem dd105_54 : decode cX3_enterProc 54 = .ok (.aload_n 0, 1) := by decide +kernel
theorem dd105_55 : decode cX3_enterProc 55 = .ok (.aload_n 0, 1) := by decide +kernel
theorem dd105_56 : decode cX3_enterProc 56 = .ok (.getfield 55, 3) := by decide +kernel
theorem dd105_59 : decode cX3_enterProc 59 = .ok (.getfield 281, 3) := by decide +kernel
theorem dd105_62 : decode cX3_enterProc 62 = .ok (.iload_n 2, 1) := by decide +kernel
theorem dd105_63 : decode cX3_enterProc 63 = .ok (.iaload, 1) := by decide +kernel
theorem dd105_64 : decode cX3_enterProc 64 = .ok (.putfield 87, 3) := by decide +kernel
theorem dd105_67 : decode cX3_enterProc 67 = .ok (.bipush (-2), 2) := by decide +kernel
theorem dd105_69 : decode cX3_enterProc 69 = .ok (.ireturn, 1) := by decide +kernel
def f105 (n : Nat) (x1 : Nat) (x2 : Int32) (s : zσ) : Option (Int32 × zσ) :=
    if (s.1 x1 10) < (8 : Int32) then
    zlet (sI s x1 10 ((s.1 x1 10) + (1 : Int32))) fun u1 =>
    if zcpo (0 : Int32) ((3 : Int32) * (u1.1 x1 10)) (3 : Int32) 64 27 = true then
    zlet (sC u1 1033 (nx (0 : Int32)) (x1 + 2) (nx ((3 : Int32) * (u1.1 x1 10))) (nx (3 : Int32))) fun u2 =>
    zlet (sI u2 1030 8 ((u2.1 1030 8) + (1 : Int32))) fun u3 =>
    zrd 9 (u3.2.2 1007 8) fun a4 =>
    if zin? x2 6 = true then
    zlet (sI u3 1007 17 (u3.1 (a4 + 17) (nx x2))) fun u5 =>
    some ((-2 : Int32), u5)
    else none
    else none
    else some ((6 : Int32), s)
set_option maxRecDepth 20000 in
theorem f105_ok {n d : Nat} {x1 : Nat} {x2 : Int32} {s : zσ} {v : Int32} {s2 : zσ} (hd : 1 ≤ d) (hx1 : zck 8 x1 = true) (h : f105 n x1 x2 s = some (v, s2)) {w : zσ} {fz : Bool} {L : Nat} {xs : Nat → Int32} : zGo (zX fz L xs) d q_105 (0, [(0, .ref 1007), (1, .ref x1), (2, .int x2)], [], zmk s w, 0, 0) (some (.int v), zmk s2 w, 0, 0) := by
  obtain ⟨d, rfl⟩ : ∃ d0, d = d0 + 1 := ⟨d - 1, by omega⟩
  unfold f105 at h
  refine zGo_s (pc' := 1) (st' := [.ref x1]) dd105_0 rfl ?_
  refine cGI dd105_1 rfl (ck8_s hx1).1 (ck8_s hx1).2 rfl ?_
  refine zGo_s (pc' := 6) (st' := [.int (8 : Int32), .int (s.1 x1 10)]) dd105_4 rfl ?_
  rcases oite h with ⟨hc, h⟩ | ⟨hc, h⟩
  · refine zIT dd105_6 rfl (kLtT hc) ?_
    refine zGo_s (pc' := 13) (st' := [.ref x1]) dd105_12 rfl ?_
    refine zGo_s (pc' := 14) (st' := [.ref x1, .ref x1]) dd105_13 rfl ?_
    refine cGI dd105_14 rfl (ck8_s hx1).1 (ck8_s hx1).2 rfl ?_
    refine zGo_s (pc' := 18) (st' := [.int (1 : Int32), .int (s.1 x1 10), .ref x1]) dd105_17 rfl ?_
    refine zGo_s (pc' := 19) (st' := [.int ((s.1 x1 10) + (1 : Int32)), .ref x1]) dd105_18 rfl ?_
    obtain ⟨u1, e_u1, h⟩ := olet h
    refine cPI dd105_19 rfl (ck8_s hx1).1 (ck8_s hx1).2 rfl rfl rfl e_u1 ?_
    refine zGo_s (pc' := 23) (st' := [.ref 1007]) dd105_22 rfl ?_
    refine cGF (e := 1033) dd105_23 rfl rfl rfl rfl rfl ?_
    refine zGo_s (pc' := 27) (st' := [.int (0 : Int32), .ref 1033]) dd105_26 rfl ?_
    refine zGo_s (pc' := 28) (st' := [.ref x1, .int (0 : Int32), .ref 1033]) dd105_27 rfl ?_
    refine cGF (e := (x1 + 2)) dd105_28 rfl (ck8_s hx1).1 (ck8_s hx1).2 rfl (cf8_2 hx1).1 ?_
    refine zGo_s (pc' := 32) (st' := [.int (3 : Int32), .ref (x1 + 2), .int (0 : Int32), .ref 1033]) dd105_31 rfl ?_
    refine zGo_s (pc' := 33) (st' := [.ref x1, .int (3 : Int32), .ref (x1 + 2), .int (0 : Int32), .ref 1033]) dd105_32 rfl ?_
    refine cGI dd105_33 rfl (ck8_s hx1).1 (ck8_s hx1).2 rfl ?_
    refine zGo_s (pc' := 37) (st' := [.int ((3 : Int32) * (u1.1 x1 10)), .ref (x1 + 2), .int (0 : Int32), .ref 1033]) dd105_36 rfl ?_
    refine zGo_s (pc' := 38) (st' := [.int (3 : Int32), .int ((3 : Int32) * (u1.1 x1 10)), .ref (x1 + 2), .int (0 : Int32), .ref 1033]) dd105_37 rfl ?_
    obtain ⟨hi, h⟩ := ochk h
    obtain ⟨u2, e_u2, h⟩ := olet h
    refine cCP dd105_38 rfl rfl rfl rfl (cf8_2 hx1).2.1 (cf8_2 hx1).2.2 hi e_u2 ?_
    refine zGo_s (pc' := 42) (st' := [.ref 1007]) dd105_41 rfl ?_
    refine cGF (e := 1030) dd105_42 rfl rfl rfl rfl rfl ?_
    refine zGo_s (pc' := 46) (st' := [.ref 1030, .ref 1030]) dd105_45 rfl ?_
    refine cGI dd105_46 rfl rfl rfl rfl ?_
    refine zGo_s (pc' := 50) (st' := [.int (1 : Int32), .int (u2.1 1030 8), .ref 1030]) dd105_49 rfl ?_
    refine zGo_s (pc' := 51) (st' := [.int ((u2.1 1030 8) + (1 : Int32)), .ref 1030]) dd105_50 rfl ?_
    obtain ⟨u3, e_u3, h⟩ := olet h
    refine cPI dd105_51 rfl rfl rfl rfl rfl rfl e_u3 ?_
    refine zGo_s (pc' := 55) (st' := [.ref 1007]) dd105_54 rfl ?_
    refine zGo_s (pc' := 56) (st' := [.ref 1007, .ref 1007]) dd105_55 rfl ?_
    obtain ⟨a4, e_a4, c_a4, h⟩ := ordd h
    refine cGR dd105_56 rfl rfl rfl rfl e_a4 ?_
    refine cGF (e := (a4 + 17)) dd105_59 rfl (ck9_s c_a4).1 (ck9_s c_a4).2 rfl (cf9_7 c_a4).1 ?_
    refine zGo_s (pc' := 63) (st' := [.int x2, .ref (a4 + 17), .ref 1007]) dd105_62 rfl ?_
    obtain ⟨hi, h⟩ := ochk h
    refine cIA dd105_63 (cf9_7 c_a4).2.1 (cf9_7 c_a4).2.2 hi ?_
    obtain ⟨u5, e_u5, h⟩ := olet h
    refine cPI dd105_64 rfl rfl rfl rfl rfl rfl e_u5 ?_
    refine zGo_s (pc' := 69) (st' := [.int (-2 : Int32)]) dd105_67 rfl ?_
    obtain ⟨rfl, rfl⟩ := oret h
    exact zGo_ret dd105_69 rfl rfl
  · refine zIF dd105_6 (kLtF hc) ?_
    refine zGo_s (pc' := 11) (st' := [.int (6 : Int32)]) dd105_9 rfl ?_
    obtain ⟨rfl, rfl⟩ := oret h
    exact zGo_ret dd105_11 rfl rfl
/-! PH$Gates.timesIn(II)I -/
theorem dd109_0 : decode cX2_timesIn 0 = .ok (.iconst 0, 1) := by decide +kernel
theorem dd109_1 : decode cX2_timesIn 1 = .ok (.istore_n 2, 1) := by decide +kernel
theorem dd109_2 : decode cX2_timesIn 2 = .ok (.iconst 0, 1) := by decide +kernel
theorem dd109_3 : decode cX2_timesIn 3 = .ok (.istore_n 3, 1) := by decide +kernel
theorem dd109_4 : decode cX2_timesIn 4 = .ok (.iload_n 3, 1) := by decide +kernel
theorem dd109_5 : decode cX2_timesIn 5 = .ok (.iconst 4, 1) := by decide +kernel
theorem dd109_6 : decode cX2_timesIn 6 = .ok (.if_icmp .ge 26, 3) := by decide +kernel
theorem dd109_9 : decode cX2_timesIn 9 = .ok (.iload_n 0, 1) := by decide +kernel
theorem dd109_10 : decode cX2_timesIn 10 = .ok (.iconst 4, 1) := by decide +kernel
theorem dd109_11 : decode cX2_timesIn 11 = .ok (.iload_n 3, 1) := by decide +kernel
theorem dd109_12 : decode cX2_timesIn 12 = .ok (.imul, 1) := by decide +kernel
theorem dd109_13 : decode cX2_timesIn 13 = .ok (.ishr, 1) := by decide +kernel
theorem dd109_14 : decode cX2_timesIn 14 = .ok (.bipush 15, 2) := by decide +kernel
theorem dd109_16 : decode cX2_timesIn 16 = .ok (.iand, 1) := by decide +kernel
theorem dd109_17 : decode cX2_timesIn 17 = .ok (.iload_n 1, 1) := by decide +kernel
theorem dd109_18 : decode cX2_timesIn 18 = .ok (.iconst 1, 1) := by decide +kernel
theorem dd109_19 : decode cX2_timesIn 19 = .ok (.iadd, 1) := by decide +kernel
theorem dd109_20 : decode cX2_timesIn 20 = .ok (.if_icmp .ne 6, 3) := by decide +kernel
theorem dd109_23 : decode cX2_timesIn 23 = .ok (.iinc 2 1, 3) := by decide +kernel
theorem dd109_26 : decode cX2_timesIn 26 = .ok (.iinc 3 1, 3) := by decide +kernel
theorem dd109_29 : decode cX2_timesIn 29 = .ok (.goto (-25), 3) := by decide +kernel
theorem dd109_32 : decode cX2_timesIn 32 = .ok (.iload_n 2, 1) := by decide +kernel
theorem dd109_33 : decode cX2_timesIn 33 = .ok (.ireturn, 1) := by decide +kernel
def f109_26 (n : Nat) (r4 : Int32 → Int32 → Int32 → Int32 → zσ → Option (Int32 × zσ)) (x0 : Int32) (x1 : Int32) (x2 : Int32) (x3 : Int32) (s : zσ) : Option (Int32 × zσ) :=
    r4 x0 x1 x2 (x3 + (1 : Int32)) s
set_option maxRecDepth 20000 in
theorem f109_26_ok {n d : Nat} {r4 : Int32 → Int32 → Int32 → Int32 → zσ → Option (Int32 × zσ)} {x0 : Int32} {x1 : Int32} {x2 : Int32} {x3 : Int32} {s : zσ} {v : Int32} {s2 : zσ} (hd : 0 ≤ d) (hr4 : ∀ (x0 : Int32) (x1 : Int32) (x2 : Int32) (x3 : Int32) (s : zσ) (v : Int32) (s2 : zσ), r4 x0 x1 x2 x3 s = some (v, s2) → ∀ {w : zσ} {fz : Bool} {L : Nat} {xs : Nat → Int32}, zGo (zX fz L xs) d q_109 (4, [(0, .int x0), (1, .int x1), (2, .int x2), (3, .int x3)], [], zmk s w, 0, 0) (some (.int v), zmk s2 w, 0, 0)) (h : f109_26 n r4 x0 x1 x2 x3 s = some (v, s2)) {w : zσ} {fz : Bool} {L : Nat} {xs : Nat → Int32} : zGo (zX fz L xs) d q_109 (26, [(0, .int x0), (1, .int x1), (2, .int x2), (3, .int x3)], [], zmk s w, 0, 0) (some (.int v), zmk s2 w, 0, 0) := by
  unfold f109_26 at h
  refine zGo_s (pc' := 29) (st' := []) (lv' := [(3, .int (x3 + (1 : Int32))), (0, .int x0), (1, .int x1), (2, .int x2)]) dd109_26 rfl ?_
  refine zGo_s (pc' := 4) (st' := []) dd109_29 rfl ?_
  exact zGo_lv (lv := [(0, .int x0), (1, .int x1), (2, .int x2), (3, .int (x3 + (1 : Int32)))]) ⟨by simp, by simp, by simp⟩ (hr4 _ _ _ _ _ _ _ h)
def f109_4 (n : Nat) : Nat → Int32 → Int32 → Int32 → Int32 → zσ → Option (Int32 × zσ)
  | 0, _, _, _, _, _ => none
  | j + 1, x0, x1, x2, x3, s =>
    if x3 < (4 : Int32) then
    if ((x0 >>> (((4 : Int32) * x3) &&& 31)) &&& (15 : Int32)) = (x1 + (1 : Int32)) then
    f109_26 n (f109_4 n j) x0 x1 (x2 + (1 : Int32)) x3 s
    else f109_26 n (f109_4 n j) x0 x1 x2 x3 s
    else some (x2, s)
set_option maxRecDepth 20000 in
theorem f109_4_ok {n d : Nat} (hd : 0 ≤ d) : ∀ (j : Nat) (x0 : Int32) (x1 : Int32) (x2 : Int32) (x3 : Int32) (s : zσ) (v : Int32) (s2 : zσ), f109_4 n j x0 x1 x2 x3 s = some (v, s2) → ∀ {w : zσ} {fz : Bool} {L : Nat} {xs : Nat → Int32}, zGo (zX fz L xs) d q_109 (4, [(0, .int x0), (1, .int x1), (2, .int x2), (3, .int x3)], [], zmk s w, 0, 0) (some (.int v), zmk s2 w, 0, 0) := by
  intro j
  induction j with
  | zero => intro x0 x1 x2 x3 s v s2 h; cases h
  | succ j ih =>
    intro x0 x1 x2 x3 s v s2 h w fz L xs
    rw [f109_4] at h
    refine zGo_s (pc' := 5) (st' := [.int x3]) dd109_4 rfl ?_
    refine zGo_s (pc' := 6) (st' := [.int (4 : Int32), .int x3]) dd109_5 rfl ?_
    rcases oite h with ⟨hc, h⟩ | ⟨hc, h⟩
    · refine zIF dd109_6 (kGeF hc) ?_
      refine zGo_s (pc' := 10) (st' := [.int x0]) dd109_9 rfl ?_
      refine zGo_s (pc' := 11) (st' := [.int (4 : Int32), .int x0]) dd109_10 rfl ?_
      refine zGo_s (pc' := 12) (st' := [.int x3, .int (4 : Int32), .int x0]) dd109_11 rfl ?_
      refine zGo_s (pc' := 13) (st' := [.int ((4 : Int32) * x3), .int x0]) dd109_12 rfl ?_
      refine zGo_s (pc' := 14) (st' := [.int (x0 >>> (((4 : Int32) * x3) &&& 31))]) dd109_13 rfl ?_
      refine zGo_s (pc' := 16) (st' := [.int (15 : Int32), .int (x0 >>> (((4 : Int32) * x3) &&& 31))]) dd109_14 rfl ?_
      refine zGo_s (pc' := 17) (st' := [.int ((x0 >>> (((4 : Int32) * x3) &&& 31)) &&& (15 : Int32))]) dd109_16 rfl ?_
      refine zGo_s (pc' := 18) (st' := [.int x1, .int ((x0 >>> (((4 : Int32) * x3) &&& 31)) &&& (15 : Int32))]) dd109_17 rfl ?_
      refine zGo_s (pc' := 19) (st' := [.int (1 : Int32), .int x1, .int ((x0 >>> (((4 : Int32) * x3) &&& 31)) &&& (15 : Int32))]) dd109_18 rfl ?_
      refine zGo_s (pc' := 20) (st' := [.int (x1 + (1 : Int32)), .int ((x0 >>> (((4 : Int32) * x3) &&& 31)) &&& (15 : Int32))]) dd109_19 rfl ?_
      rcases oite h with ⟨hc, h⟩ | ⟨hc, h⟩
      · refine zIF dd109_20 (kNeF hc) ?_
        refine zGo_s (pc' := 26) (st' := []) (lv' := [(2, .int (x2 + (1 : Int32))), (0, .int x0), (1, .int x1), (3, .int x3)]) dd109_23 rfl ?_
        exact zGo_lv (lv := [(0, .int x0), (1, .int x1), (2, .int (x2 + (1 : Int32))), (3, .int x3)]) ⟨by simp, by simp, by simp⟩ (f109_26_ok hd ih h)
      · refine zIT dd109_20 rfl (kNeT hc) ?_
        exact f109_26_ok hd ih h
    · refine zIT dd109_6 rfl (kGeT hc) ?_
      refine zGo_s (pc' := 33) (st' := [.int x2]) dd109_32 rfl ?_
      obtain ⟨rfl, rfl⟩ := oret h
      exact zGo_ret dd109_33 rfl rfl
def f109 (n : Nat) (x0 : Int32) (x1 : Int32) (s : zσ) : Option (Int32 × zσ) :=
    f109_4 n n x0 x1 (0 : Int32) (0 : Int32) s
set_option maxRecDepth 20000 in
theorem f109_ok {n d : Nat} {x0 : Int32} {x1 : Int32} {s : zσ} {v : Int32} {s2 : zσ} (hd : 0 ≤ d) (h : f109 n x0 x1 s = some (v, s2)) {w : zσ} {fz : Bool} {L : Nat} {xs : Nat → Int32} : zGo (zX fz L xs) d q_109 (0, [(0, .int x0), (1, .int x1)], [], zmk s w, 0, 0) (some (.int v), zmk s2 w, 0, 0) := by
  unfold f109 at h
  refine zGo_s (pc' := 1) (st' := [.int (0 : Int32)]) dd109_0 rfl ?_
  refine zGo_s (pc' := 2) (st' := []) (lv' := [(2, .int (0 : Int32)), (0, .int x0), (1, .int x1)]) dd109_1 rfl ?_
  refine zGo_s (pc' := 3) (st' := [.int (0 : Int32)]) dd109_2 rfl ?_
  refine zGo_s (pc' := 4) (st' := []) (lv' := [(3, .int (0 : Int32)), (2, .int (0 : Int32)), (0, .int x0), (1, .int x1)]) dd109_3 rfl ?_
  exact zGo_lv (lv := [(0, .int x0), (1, .int x1), (2, .int (0 : Int32)), (3, .int (0 : Int32))]) ⟨by simp, by simp, by simp⟩ (f109_4_ok hd _ _ _ _ _ _ _ _ h)
