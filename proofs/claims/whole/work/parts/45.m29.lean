/-! PHModel.perform(II)V -/
theorem dd242_0 : decode cX13_perform 0 = .ok (.aload_n 0, 1) := by decide +kernel
theorem dd242_1 : decode cX13_perform 1 = .ok (.getfield 20, 3) := by decide +kernel
theorem dd242_4 : decode cX13_perform 4 = .ok (.getfield 459, 3) := by decide +kernel
theorem dd242_7 : decode cX13_perform 7 = .ok (.iload_n 2, 1) := by decide +kernel
theorem dd242_8 : decode cX13_perform 8 = .ok (.iaload, 1) := by decide +kernel
theorem dd242_9 : decode cX13_perform 9 = .ok (.tableswitch 255 1 28 #[127, 174, 183, 192, 201, 201, 210, 210, 210, 219, 219, 228, 228, 228, 228, 255, 255, 255, 255, 255, 255, 246, 237, 237, 246, 246, 246, 246], 127) := by decide +kernel
theorem dd242_136 : decode cX13_perform 136 = .ok (.aload_n 0, 1) := by decide +kernel
theorem dd242_137 : decode cX13_perform 137 = .ok (.iload_n 1, 1) := by decide +kernel
theorem dd242_138 : decode cX13_perform 138 = .ok (.aload_n 0, 1) := by decide +kernel
theorem dd242_139 : decode cX13_perform 139 = .ok (.getfield 20, 3) := by decide +kernel
theorem dd242_142 : decode cX13_perform 142 = .ok (.getfield 469, 3) := by decide +kernel
theorem dd242_145 : decode cX13_perform 145 = .ok (.iconst 4, 1) := by decide +kernel
theorem dd242_146 : decode cX13_perform 146 = .ok (.iload_n 2, 1) := by decide +kernel
theorem dd242_147 : decode cX13_perform 147 = .ok (.imul, 1) := by decide +kernel
theorem dd242_148 : decode cX13_perform 148 = .ok (.iaload, 1) := by decide +kernel
theorem dd242_149 : decode cX13_perform 149 = .ok (.invokevirtual 662, 3) := by decide +kernel
theorem dd242_152 : decode cX13_perform 152 = .ok (.istore_n 3, 1) := by decide +kernel
theorem dd242_153 : decode cX13_perform 153 = .ok (.aload_n 0, 1) := by decide +kernel
theorem dd242_154 : decode cX13_perform 154 = .ok (.getfield 623, 3) := by decide +kernel
theorem dd242_157 : decode cX13_perform 157 = .ok (.ifCond .ne 113, 3) := by decide +kernel
theorem dd242_160 : decode cX13_perform 160 = .ok (.aload_n 0, 1) := by decide +kernel
theorem dd242_161 : decode cX13_perform 161 = .ok (.iload_n 1, 1) := by decide +kernel
theorem dd242_162 : decode cX13_perform 162 = .ok (.aload_n 0, 1) := by decide +kernel
theorem dd242_163 : decode cX13_perform 163 = .ok (.getfield 20, 3) := by decide +kernel
theorem dd242_166 : decode cX13_perform 166 = .ok (.getfield 441, 3) := by decide +kernel
theorem dd242_169 : decode cX13_perform 169 = .ok (.iload_n 2, 1) := by decide +kernel
theorem dd242_170 : decode cX13_perform 170 = .ok (.iaload, 1) := by decide +kernel
theorem dd242_171 : decode cX13_perform 171 = .ok (.iload_n 3, 1) := by decide +kernel
theorem dd242_172 : decode cX13_perform 172 = .ok (.invokevirtual 603, 3) := by decide +kernel
theorem dd242_175 : decode cX13_perform 175 = .ok (.aload_n 0, 1) := by decide +kernel
theorem dd242_176 : decode cX13_perform 176 = .ok (.iload_n 1, 1) := by decide +kernel
theorem dd242_177 : decode cX13_perform 177 = .ok (.invokevirtual 665, 3) := by decide +kernel
theorem dd242_180 : decode cX13_perform 180 = .ok (.goto 90, 3) := by decide +kernel
theorem dd242_183 : decode cX13_perform 183 = .ok (.aload_n 0, 1) := by decide +kernel
theorem dd242_184 : decode cX13_perform 184 = .ok (.iload_n 1, 1) := by decide +kernel
theorem dd242_185 : decode cX13_perform 185 = .ok (.iload_n 2, 1) := by decide +kernel
theorem dd242_186 : decode cX13_perform 186 = .ok (.invokevirtual 668, 3) := by decide +kernel
theorem dd242_189 : decode cX13_perform 189 = .ok (.goto 81, 3) := by decide +kernel
theorem dd242_192 : decode cX13_perform 192 = .ok (.aload_n 0, 1) := by decide +kernel
theorem dd242_193 : decode cX13_perform 193 = .ok (.iload_n 1, 1) := by decide +kernel
theorem dd242_194 : decode cX13_perform 194 = .ok (.iload_n 2, 1) := by decide +kernel
theorem dd242_195 : decode cX13_perform 195 = .ok (.invokevirtual 671, 3) := by decide +kernel
theorem dd242_198 : decode cX13_perform 198 = .ok (.goto 72, 3) := by decide +kernel
theorem dd242_201 : decode cX13_perform 201 = .ok (.aload_n 0, 1) := by decide +kernel
theorem dd242_202 : decode cX13_perform 202 = .ok (.iload_n 1, 1) := by decide +kernel
theorem dd242_203 : decode cX13_perform 203 = .ok (.iload_n 2, 1) := by decide +kernel
theorem dd242_204 : decode cX13_perform 204 = .ok (.invokevirtual 674, 3) := by decide +kernel
theorem dd242_207 : decode cX13_perform 207 = .ok (.goto 63, 3) := by decide +kernel
theorem dd242_210 : decode cX13_perform 210 = .ok (.aload_n 0, 1) := by decide +kernel
theorem dd242_211 : decode cX13_perform 211 = .ok (.iload_n 1, 1) := by decide +kernel
theorem dd242_212 : decode cX13_perform 212 = .ok (.iload_n 2, 1) := by decide +kernel
theorem dd242_213 : decode cX13_perform 213 = .ok (.invokevirtual 677, 3) := by decide +kernel
theorem dd242_216 : decode cX13_perform 216 = .ok (.goto 54, 3) := by decide +kernel
theorem dd242_219 : decode cX13_perform 219 = .ok (.aload_n 0, 1) := by decide +kernel
theorem dd242_220 : decode cX13_perform 220 = .ok (.iload_n 1, 1) := by decide +kernel
theorem dd242_221 : decode cX13_perform 221 = .ok (.iload_n 2, 1) := by decide +kernel
theorem dd242_222 : decode cX13_perform 222 = .ok (.invokevirtual 680, 3) := by decide +kernel
theorem dd242_225 : decode cX13_perform 225 = .ok (.goto 45, 3) := by decide +kernel
theorem dd242_228 : decode cX13_perform 228 = .ok (.aload_n 0, 1) := by decide +kernel
theorem dd242_229 : decode cX13_perform 229 = .ok (.iload_n 1, 1) := by decide +kernel
theorem dd242_230 : decode cX13_perform 230 = .ok (.iload_n 2, 1) := by decide +kernel
theorem dd242_231 : decode cX13_perform 231 = .ok (.invokevirtual 682, 3) := by decide +kernel
theorem dd242_234 : decode cX13_perform 234 = .ok (.goto 36, 3) := by decide +kernel
theorem dd242_237 : decode cX13_perform 237 = .ok (.aload_n 0, 1) := by decide +kernel
theorem dd242_238 : decode cX13_perform 238 = .ok (.iload_n 1, 1) := by decide +kernel
theorem dd242_239 : decode cX13_perform 239 = .ok (.iload_n 2, 1) := by decide +kernel
theorem dd242_240 : decode cX13_perform 240 = .ok (.invokevirtual 685, 3) := by decide +kernel
theorem dd242_243 : decode cX13_perform 243 = .ok (.goto 27, 3) := by decide +kernel
theorem dd242_246 : decode cX13_perform 246 = .ok (.aload_n 0, 1) := by decide +kernel
theorem dd242_247 : decode cX13_perform 247 = .ok (.iload_n 1, 1) := by decide +kernel
theorem dd242_248 : decode cX13_perform 248 = .ok (.iload_n 2, 1) := by decide +kernel
theorem dd242_249 : decode cX13_perform 249 = .ok (.invokevirtual 688, 3) := by decide +kernel
theorem dd242_252 : decode cX13_perform 252 = .ok (.goto 18, 3) := by decide +kernel
theorem dd242_255 : decode cX13_perform 255 = .ok (.aload_n 0, 1) := by decide +kernel
theorem dd242_256 : decode cX13_perform 256 = .ok (.iload_n 1, 1) := by decide +kernel
theorem dd242_257 : decode cX13_perform 257 = .ok (.iload_n 2, 1) := by decide +kernel
theorem dd242_258 : decode cX13_perform 258 = .ok (.invokevirtual 691, 3) := by decide +kernel
theorem dd242_261 : decode cX13_perform 261 = .ok (.goto 9, 3) := by decide +kernel
theorem dd242_264 : decode cX13_perform 264 = .ok (.aload_n 0, 1) := by decide +kernel
theorem dd242_265 : decode cX13_perform 265 = .ok (.iload_n 1, 1) := by decide +kernel
theorem dd242_266 : decode cX13_perform 266 = .ok (.iload_n 2, 1) := by decide +kernel
theorem dd242_267 : decode cX13_perform 267 = .ok (.invokevirtual 694, 3) := by decide +kernel
theorem dd242_270 : decode cX13_perform 270 = .ok (.return_, 1) := by decide +kernel
def f242_264 (n : Nat) (x1 : Int32) (x2 : Int32) (s : zσ) : Option zσ :=
    yb0 (f263 n x1 x2 s) fun u1 =>
    some u1
set_option maxRecDepth 20000 in
theorem f242_264_ok {n d : Nat} {x1 : Int32} {x2 : Int32} {s : zσ} {s2 : zσ} (hd : 31 ≤ d) (h : f242_264 n x1 x2 s = some s2) {w : zσ} {fz : Bool} {L : Nat} {xs : Nat → Int32} : zGo (zX fz L xs) d q_242 (264, [(0, .ref 1132), (1, .int x1), (2, .int x2)], [], zmk w s, 0, 0) (none, zmk w s2, 0, 0) := by
  obtain ⟨d, rfl⟩ : ∃ d0, d = d0 + 1 := ⟨d - 1, by omega⟩
  unfold f242_264 at h
  refine zGo_s (pc' := 265) (st' := [.ref 1132]) dd242_264 rfl ?_
  refine zGo_s (pc' := 266) (st' := [.int x1, .ref 1132]) dd242_265 rfl ?_
  refine zGo_s (pc' := 267) (st' := [.int x2, .int x1, .ref 1132]) dd242_266 rfl ?_
  obtain ⟨u1, hq, h⟩ := obn0 h
  refine zCV0 (As := [.int x1, .int x2]) (rest := []) (b := 1132) (q' := q_263) dd242_267 rfl rfl (rcv_m rfl rfl (by decide)) rfl rfl rfl (f263_ok (d := d) (by omega)  hq) ?_
  obtain rfl := ore0 h
  exact zGo_ret dd242_270 rfl rfl
def f242_255 (n : Nat) (x1 : Int32) (x2 : Int32) (s : zσ) : Option zσ :=
    yb0 (f260 n x1 x2 s) fun u1 =>
    some u1
set_option maxRecDepth 20000 in
theorem f242_255_ok {n d : Nat} {x1 : Int32} {x2 : Int32} {s : zσ} {s2 : zσ} (hd : 31 ≤ d) (h : f242_255 n x1 x2 s = some s2) {w : zσ} {fz : Bool} {L : Nat} {xs : Nat → Int32} : zGo (zX fz L xs) d q_242 (255, [(0, .ref 1132), (1, .int x1), (2, .int x2)], [], zmk w s, 0, 0) (none, zmk w s2, 0, 0) := by
  obtain ⟨d, rfl⟩ : ∃ d0, d = d0 + 1 := ⟨d - 1, by omega⟩
  unfold f242_255 at h
  refine zGo_s (pc' := 256) (st' := [.ref 1132]) dd242_255 rfl ?_
  refine zGo_s (pc' := 257) (st' := [.int x1, .ref 1132]) dd242_256 rfl ?_
  refine zGo_s (pc' := 258) (st' := [.int x2, .int x1, .ref 1132]) dd242_257 rfl ?_
  obtain ⟨u1, hq, h⟩ := obn0 h
  refine zCV0 (As := [.int x1, .int x2]) (rest := []) (b := 1132) (q' := q_260) dd242_258 rfl rfl (rcv_m rfl rfl (by decide)) rfl rfl rfl (f260_ok (d := d) (by omega)  hq) ?_
  refine zGo_s (pc' := 270) (st' := []) dd242_261 rfl ?_
  obtain rfl := ore0 h
  exact zGo_ret dd242_270 rfl rfl
def f242_246 (n : Nat) (x1 : Int32) (x2 : Int32) (s : zσ) : Option zσ :=
    yb0 (f259 n x1 x2 s) fun u1 =>
    some u1
set_option maxRecDepth 20000 in
theorem f242_246_ok {n d : Nat} {x1 : Int32} {x2 : Int32} {s : zσ} {s2 : zσ} (hd : 31 ≤ d) (h : f242_246 n x1 x2 s = some s2) {w : zσ} {fz : Bool} {L : Nat} {xs : Nat → Int32} : zGo (zX fz L xs) d q_242 (246, [(0, .ref 1132), (1, .int x1), (2, .int x2)], [], zmk w s, 0, 0) (none, zmk w s2, 0, 0) := by
  obtain ⟨d, rfl⟩ : ∃ d0, d = d0 + 1 := ⟨d - 1, by omega⟩
  unfold f242_246 at h
  refine zGo_s (pc' := 247) (st' := [.ref 1132]) dd242_246 rfl ?_
  refine zGo_s (pc' := 248) (st' := [.int x1, .ref 1132]) dd242_247 rfl ?_
  refine zGo_s (pc' := 249) (st' := [.int x2, .int x1, .ref 1132]) dd242_248 rfl ?_
  obtain ⟨u1, hq, h⟩ := obn0 h
  refine zCV0 (As := [.int x1, .int x2]) (rest := []) (b := 1132) (q' := q_259) dd242_249 rfl rfl (rcv_m rfl rfl (by decide)) rfl rfl rfl (f259_ok (d := d) (by omega)  hq) ?_
  refine zGo_s (pc' := 270) (st' := []) dd242_252 rfl ?_
  obtain rfl := ore0 h
  exact zGo_ret dd242_270 rfl rfl
def f242_237 (n : Nat) (x1 : Int32) (x2 : Int32) (s : zσ) : Option zσ :=
    yb0 (f258 n x1 x2 s) fun u1 =>
    some u1
set_option maxRecDepth 20000 in
theorem f242_237_ok {n d : Nat} {x1 : Int32} {x2 : Int32} {s : zσ} {s2 : zσ} (hd : 31 ≤ d) (h : f242_237 n x1 x2 s = some s2) {w : zσ} {fz : Bool} {L : Nat} {xs : Nat → Int32} : zGo (zX fz L xs) d q_242 (237, [(0, .ref 1132), (1, .int x1), (2, .int x2)], [], zmk w s, 0, 0) (none, zmk w s2, 0, 0) := by
  obtain ⟨d, rfl⟩ : ∃ d0, d = d0 + 1 := ⟨d - 1, by omega⟩
  unfold f242_237 at h
  refine zGo_s (pc' := 238) (st' := [.ref 1132]) dd242_237 rfl ?_
  refine zGo_s (pc' := 239) (st' := [.int x1, .ref 1132]) dd242_238 rfl ?_
  refine zGo_s (pc' := 240) (st' := [.int x2, .int x1, .ref 1132]) dd242_239 rfl ?_
  obtain ⟨u1, hq, h⟩ := obn0 h
  refine zCV0 (As := [.int x1, .int x2]) (rest := []) (b := 1132) (q' := q_258) dd242_240 rfl rfl (rcv_m rfl rfl (by decide)) rfl rfl rfl (f258_ok (d := d) (by omega)  hq) ?_
  refine zGo_s (pc' := 270) (st' := []) dd242_243 rfl ?_
  obtain rfl := ore0 h
  exact zGo_ret dd242_270 rfl rfl
def f242_228 (n : Nat) (x1 : Int32) (x2 : Int32) (s : zσ) : Option zσ :=
    yb0 (f256 n x1 x2 s) fun u1 =>
    some u1
set_option maxRecDepth 20000 in
theorem f242_228_ok {n d : Nat} {x1 : Int32} {x2 : Int32} {s : zσ} {s2 : zσ} (hd : 31 ≤ d) (h : f242_228 n x1 x2 s = some s2) {w : zσ} {fz : Bool} {L : Nat} {xs : Nat → Int32} : zGo (zX fz L xs) d q_242 (228, [(0, .ref 1132), (1, .int x1), (2, .int x2)], [], zmk w s, 0, 0) (none, zmk w s2, 0, 0) := by
  obtain ⟨d, rfl⟩ : ∃ d0, d = d0 + 1 := ⟨d - 1, by omega⟩
  unfold f242_228 at h
  refine zGo_s (pc' := 229) (st' := [.ref 1132]) dd242_228 rfl ?_
  refine zGo_s (pc' := 230) (st' := [.int x1, .ref 1132]) dd242_229 rfl ?_
  refine zGo_s (pc' := 231) (st' := [.int x2, .int x1, .ref 1132]) dd242_230 rfl ?_
  obtain ⟨u1, hq, h⟩ := obn0 h
  refine zCV0 (As := [.int x1, .int x2]) (rest := []) (b := 1132) (q' := q_256) dd242_231 rfl rfl (rcv_m rfl rfl (by decide)) rfl rfl rfl (f256_ok (d := d) (by omega)  hq) ?_
  refine zGo_s (pc' := 270) (st' := []) dd242_234 rfl ?_
  obtain rfl := ore0 h
  exact zGo_ret dd242_270 rfl rfl
def f242_219 (n : Nat) (x1 : Int32) (x2 : Int32) (s : zσ) : Option zσ :=
    yb0 (f255 n x1 x2 s) fun u1 =>
    some u1
set_option maxRecDepth 20000 in
theorem f242_219_ok {n d : Nat} {x1 : Int32} {x2 : Int32} {s : zσ} {s2 : zσ} (hd : 31 ≤ d) (h : f242_219 n x1 x2 s = some s2) {w : zσ} {fz : Bool} {L : Nat} {xs : Nat → Int32} : zGo (zX fz L xs) d q_242 (219, [(0, .ref 1132), (1, .int x1), (2, .int x2)], [], zmk w s, 0, 0) (none, zmk w s2, 0, 0) := by
  obtain ⟨d, rfl⟩ : ∃ d0, d = d0 + 1 := ⟨d - 1, by omega⟩
  unfold f242_219 at h
  refine zGo_s (pc' := 220) (st' := [.ref 1132]) dd242_219 rfl ?_
  refine zGo_s (pc' := 221) (st' := [.int x1, .ref 1132]) dd242_220 rfl ?_
  refine zGo_s (pc' := 222) (st' := [.int x2, .int x1, .ref 1132]) dd242_221 rfl ?_
  obtain ⟨u1, hq, h⟩ := obn0 h
  refine zCV0 (As := [.int x1, .int x2]) (rest := []) (b := 1132) (q' := q_255) dd242_222 rfl rfl (rcv_m rfl rfl (by decide)) rfl rfl rfl (f255_ok (d := d) (by omega)  hq) ?_
  refine zGo_s (pc' := 270) (st' := []) dd242_225 rfl ?_
  obtain rfl := ore0 h
  exact zGo_ret dd242_270 rfl rfl
def f242_210 (n : Nat) (x1 : Int32) (x2 : Int32) (s : zσ) : Option zσ :=
    yb0 (f254 n x1 x2 s) fun u1 =>
    some u1
set_option maxRecDepth 20000 in
theorem f242_210_ok {n d : Nat} {x1 : Int32} {x2 : Int32} {s : zσ} {s2 : zσ} (hd : 31 ≤ d) (h : f242_210 n x1 x2 s = some s2) {w : zσ} {fz : Bool} {L : Nat} {xs : Nat → Int32} : zGo (zX fz L xs) d q_242 (210, [(0, .ref 1132), (1, .int x1), (2, .int x2)], [], zmk w s, 0, 0) (none, zmk w s2, 0, 0) := by
  obtain ⟨d, rfl⟩ : ∃ d0, d = d0 + 1 := ⟨d - 1, by omega⟩
  unfold f242_210 at h
  refine zGo_s (pc' := 211) (st' := [.ref 1132]) dd242_210 rfl ?_
  refine zGo_s (pc' := 212) (st' := [.int x1, .ref 1132]) dd242_211 rfl ?_
  refine zGo_s (pc' := 213) (st' := [.int x2, .int x1, .ref 1132]) dd242_212 rfl ?_
  obtain ⟨u1, hq, h⟩ := obn0 h
  refine zCV0 (As := [.int x1, .int x2]) (rest := []) (b := 1132) (q' := q_254) dd242_213 rfl rfl (rcv_m rfl rfl (by decide)) rfl rfl rfl (f254_ok (d := d) (by omega)  hq) ?_
  refine zGo_s (pc' := 270) (st' := []) dd242_216 rfl ?_
  obtain rfl := ore0 h
  exact zGo_ret dd242_270 rfl rfl
def f242 (n : Nat) (x1 : Int32) (x2 : Int32) (s : zσ) : Option zσ :=
    zrd 12 (s.2.2 1132 11) fun a1 =>
    if zin? x2 200 = true then
    if (s.1 (a1 + 15) (nx x2)) = (1 : Int32) then
    zrd 12 (s.2.2 1132 11) fun a2 =>
    if zin? ((4 : Int32) * x2) 800 = true then
    yb1 (f243 n x1 (s.1 (a2 + 22) (nx ((4 : Int32) * x2))) s) fun v4 u3 =>
    if (u3.1 1132 69) = (0 : Int32) then
    zrd 12 (u3.2.2 1132 11) fun a5 =>
    if zin? x2 200 = true then
    yb0 (f217 n x1 (u3.1 (a5 + 17) (nx x2)) v4 u3) fun u6 =>
    yb0 (f237 n x1 u6) fun u7 =>
    some u7
    else none
    else some u3
    else none
    else if (s.1 (a1 + 15) (nx x2)) = (2 : Int32) then
    yb0 (f251 n x1 x2 s) fun u8 =>
    some u8
    else if (s.1 (a1 + 15) (nx x2)) = (3 : Int32) then
    yb0 (f252 n x1 x2 s) fun u9 =>
    some u9
    else if (s.1 (a1 + 15) (nx x2)) = (4 : Int32) then
    yb0 (f253 n x1 x2 s) fun u10 =>
    some u10
    else if (s.1 (a1 + 15) (nx x2)) = (5 : Int32) then
    f242_210 n x1 x2 s
    else if (s.1 (a1 + 15) (nx x2)) = (6 : Int32) then
    f242_210 n x1 x2 s
    else if (s.1 (a1 + 15) (nx x2)) = (7 : Int32) then
    f242_219 n x1 x2 s
    else if (s.1 (a1 + 15) (nx x2)) = (8 : Int32) then
    f242_219 n x1 x2 s
    else if (s.1 (a1 + 15) (nx x2)) = (9 : Int32) then
    f242_219 n x1 x2 s
    else if (s.1 (a1 + 15) (nx x2)) = (10 : Int32) then
    f242_228 n x1 x2 s
    else if (s.1 (a1 + 15) (nx x2)) = (11 : Int32) then
    f242_228 n x1 x2 s
    else if (s.1 (a1 + 15) (nx x2)) = (12 : Int32) then
    f242_237 n x1 x2 s
    else if (s.1 (a1 + 15) (nx x2)) = (13 : Int32) then
    f242_237 n x1 x2 s
    else if (s.1 (a1 + 15) (nx x2)) = (14 : Int32) then
    f242_237 n x1 x2 s
    else if (s.1 (a1 + 15) (nx x2)) = (15 : Int32) then
    f242_237 n x1 x2 s
    else if (s.1 (a1 + 15) (nx x2)) = (22 : Int32) then
    f242_255 n x1 x2 s
    else if (s.1 (a1 + 15) (nx x2)) = (23 : Int32) then
    f242_246 n x1 x2 s
    else if (s.1 (a1 + 15) (nx x2)) = (24 : Int32) then
    f242_246 n x1 x2 s
    else if (s.1 (a1 + 15) (nx x2)) = (25 : Int32) then
    f242_255 n x1 x2 s
    else if (s.1 (a1 + 15) (nx x2)) = (26 : Int32) then
    f242_255 n x1 x2 s
    else if (s.1 (a1 + 15) (nx x2)) = (27 : Int32) then
    f242_255 n x1 x2 s
    else if (s.1 (a1 + 15) (nx x2)) = (28 : Int32) then
    f242_255 n x1 x2 s
    else f242_264 n x1 x2 s
    else none
set_option maxRecDepth 20000 in
theorem f242_ok {n d : Nat} {x1 : Int32} {x2 : Int32} {s : zσ} {s2 : zσ} (hd : 31 ≤ d) (h : f242 n x1 x2 s = some s2) {w : zσ} {fz : Bool} {L : Nat} {xs : Nat → Int32} : zGo (zX fz L xs) d q_242 (0, [(0, .ref 1132), (1, .int x1), (2, .int x2)], [], zmk w s, 0, 0) (none, zmk w s2, 0, 0) := by
  obtain ⟨d, rfl⟩ : ∃ d0, d = d0 + 1 := ⟨d - 1, by omega⟩
  unfold f242 at h
  refine zGo_s (pc' := 1) (st' := [.ref 1132]) dd242_0 rfl ?_
  obtain ⟨a1, e_a1, c_a1, h⟩ := ordd h
  refine mGR dd242_1 rfl rfl rfl rfl e_a1 ?_
  refine mGF (e := (a1 + 15)) dd242_4 rfl (ck12_s c_a1).1 (ck12_s c_a1).2 rfl (cf12_17 c_a1).1 ?_
  refine zGo_s (pc' := 8) (st' := [.int x2, .ref (a1 + 15)]) dd242_7 rfl ?_
  obtain ⟨hi, h⟩ := ochk h
  refine mIA dd242_8 (cf12_17 c_a1).2.1 (cf12_17 c_a1).2.2 hi ?_
  rcases oite h with ⟨hc, h⟩ | ⟨hn0, h⟩
  · refine zGo_sw dd242_9 (o := 127) (by rw [hc]; decide +kernel) rfl ?_
    refine zGo_s (pc' := 137) (st' := [.ref 1132]) dd242_136 rfl ?_
    refine zGo_s (pc' := 138) (st' := [.int x1, .ref 1132]) dd242_137 rfl ?_
    refine zGo_s (pc' := 139) (st' := [.ref 1132, .int x1, .ref 1132]) dd242_138 rfl ?_
    obtain ⟨a2, e_a2, c_a2, h⟩ := ordd h
    refine mGR dd242_139 rfl rfl rfl rfl e_a2 ?_
    refine mGF (e := (a2 + 22)) dd242_142 rfl (ck12_s c_a2).1 (ck12_s c_a2).2 rfl (cf12_24 c_a2).1 ?_
    refine zGo_s (pc' := 146) (st' := [.int (4 : Int32), .ref (a2 + 22), .int x1, .ref 1132]) dd242_145 rfl ?_
    refine zGo_s (pc' := 147) (st' := [.int x2, .int (4 : Int32), .ref (a2 + 22), .int x1, .ref 1132]) dd242_146 rfl ?_
    refine zGo_s (pc' := 148) (st' := [.int ((4 : Int32) * x2), .ref (a2 + 22), .int x1, .ref 1132]) dd242_147 rfl ?_
    obtain ⟨hi, h⟩ := ochk h
    refine mIA dd242_148 (cf12_24 c_a2).2.1 (cf12_24 c_a2).2.2 hi ?_
    obtain ⟨v4, u3, hq, h⟩ := obnd h
    refine zCV1 (As := [.int x1, .int (s.1 (a2 + 22) (nx ((4 : Int32) * x2)))]) (rest := []) (b := 1132) (q' := q_243) dd242_149 rfl rfl (rcv_m rfl rfl (by decide)) rfl rfl rfl (f243_ok (d := d) (by omega)  hq) ?_
    refine zGo_s (pc' := 153) (st' := []) (lv' := [(3, .int v4), (0, .ref 1132), (1, .int x1), (2, .int x2)]) dd242_152 rfl ?_
    refine zGo_s (pc' := 154) (st' := [.ref 1132]) dd242_153 rfl ?_
    refine mGI dd242_154 rfl rfl rfl rfl ?_
    rcases oite h with ⟨hc, h⟩ | ⟨hc, h⟩
    · refine zUF dd242_157 (kNeF hc) ?_
      refine zGo_s (pc' := 161) (st' := [.ref 1132]) dd242_160 rfl ?_
      refine zGo_s (pc' := 162) (st' := [.int x1, .ref 1132]) dd242_161 rfl ?_
      refine zGo_s (pc' := 163) (st' := [.ref 1132, .int x1, .ref 1132]) dd242_162 rfl ?_
      obtain ⟨a5, e_a5, c_a5, h⟩ := ordd h
      refine mGR dd242_163 rfl rfl rfl rfl e_a5 ?_
      refine mGF (e := (a5 + 17)) dd242_166 rfl (ck12_s c_a5).1 (ck12_s c_a5).2 rfl (cf12_19 c_a5).1 ?_
      refine zGo_s (pc' := 170) (st' := [.int x2, .ref (a5 + 17), .int x1, .ref 1132]) dd242_169 rfl ?_
      obtain ⟨hi, h⟩ := ochk h
      refine mIA dd242_170 (cf12_19 c_a5).2.1 (cf12_19 c_a5).2.2 hi ?_
      refine zGo_s (pc' := 172) (st' := [.int v4, .int (u3.1 (a5 + 17) (nx x2)), .int x1, .ref 1132]) dd242_171 rfl ?_
      obtain ⟨u6, hq, h⟩ := obn0 h
      refine zCV0 (As := [.int x1, .int (u3.1 (a5 + 17) (nx x2)), .int v4]) (rest := []) (b := 1132) (q' := q_217) dd242_172 rfl rfl (rcv_m rfl rfl (by decide)) rfl rfl rfl (f217_ok (d := d) (by omega)  hq) ?_
      refine zGo_s (pc' := 176) (st' := [.ref 1132]) dd242_175 rfl ?_
      refine zGo_s (pc' := 177) (st' := [.int x1, .ref 1132]) dd242_176 rfl ?_
      obtain ⟨u7, hq, h⟩ := obn0 h
      refine zCV0 (As := [.int x1]) (rest := []) (b := 1132) (q' := q_237) dd242_177 rfl rfl (rcv_m rfl rfl (by decide)) rfl rfl rfl (f237_ok (d := d) (by omega)  hq) ?_
      refine zGo_s (pc' := 270) (st' := []) dd242_180 rfl ?_
      obtain rfl := ore0 h
      exact zGo_ret dd242_270 rfl rfl
    · refine zUT dd242_157 rfl (kNeT hc) ?_
      obtain rfl := ore0 h
      exact zGo_ret dd242_270 rfl rfl
  rcases oite h with ⟨hc, h⟩ | ⟨hn1, h⟩
  · refine zGo_sw dd242_9 (o := 174) (by rw [hc]; decide +kernel) rfl ?_
    refine zGo_s (pc' := 184) (st' := [.ref 1132]) dd242_183 rfl ?_
    refine zGo_s (pc' := 185) (st' := [.int x1, .ref 1132]) dd242_184 rfl ?_
    refine zGo_s (pc' := 186) (st' := [.int x2, .int x1, .ref 1132]) dd242_185 rfl ?_
    obtain ⟨u8, hq, h⟩ := obn0 h
    refine zCV0 (As := [.int x1, .int x2]) (rest := []) (b := 1132) (q' := q_251) dd242_186 rfl rfl (rcv_m rfl rfl (by decide)) rfl rfl rfl (f251_ok (d := d) (by omega)  hq) ?_
    refine zGo_s (pc' := 270) (st' := []) dd242_189 rfl ?_
    obtain rfl := ore0 h
    exact zGo_ret dd242_270 rfl rfl
  rcases oite h with ⟨hc, h⟩ | ⟨hn2, h⟩
  · refine zGo_sw dd242_9 (o := 183) (by rw [hc]; decide +kernel) rfl ?_
    refine zGo_s (pc' := 193) (st' := [.ref 1132]) dd242_192 rfl ?_
    refine zGo_s (pc' := 194) (st' := [.int x1, .ref 1132]) dd242_193 rfl ?_
    refine zGo_s (pc' := 195) (st' := [.int x2, .int x1, .ref 1132]) dd242_194 rfl ?_
    obtain ⟨u9, hq, h⟩ := obn0 h
    refine zCV0 (As := [.int x1, .int x2]) (rest := []) (b := 1132) (q' := q_252) dd242_195 rfl rfl (rcv_m rfl rfl (by decide)) rfl rfl rfl (f252_ok (d := d) (by omega)  hq) ?_
    refine zGo_s (pc' := 270) (st' := []) dd242_198 rfl ?_
    obtain rfl := ore0 h
    exact zGo_ret dd242_270 rfl rfl
  rcases oite h with ⟨hc, h⟩ | ⟨hn3, h⟩
  · refine zGo_sw dd242_9 (o := 192) (by rw [hc]; decide +kernel) rfl ?_
    refine zGo_s (pc' := 202) (st' := [.ref 1132]) dd242_201 rfl ?_
    refine zGo_s (pc' := 203) (st' := [.int x1, .ref 1132]) dd242_202 rfl ?_
    refine zGo_s (pc' := 204) (st' := [.int x2, .int x1, .ref 1132]) dd242_203 rfl ?_
    obtain ⟨u10, hq, h⟩ := obn0 h
    refine zCV0 (As := [.int x1, .int x2]) (rest := []) (b := 1132) (q' := q_253) dd242_204 rfl rfl (rcv_m rfl rfl (by decide)) rfl rfl rfl (f253_ok (d := d) (by omega)  hq) ?_
    refine zGo_s (pc' := 270) (st' := []) dd242_207 rfl ?_
    obtain rfl := ore0 h
    exact zGo_ret dd242_270 rfl rfl
  rcases oite h with ⟨hc, h⟩ | ⟨hn4, h⟩
  · refine zGo_sw dd242_9 (o := 201) (by rw [hc]; decide +kernel) rfl ?_
    exact f242_210_ok hd h
  rcases oite h with ⟨hc, h⟩ | ⟨hn5, h⟩
  · refine zGo_sw dd242_9 (o := 201) (by rw [hc]; decide +kernel) rfl ?_
    exact f242_210_ok hd h
  rcases oite h with ⟨hc, h⟩ | ⟨hn6, h⟩
  · refine zGo_sw dd242_9 (o := 210) (by rw [hc]; decide +kernel) rfl ?_
    exact f242_219_ok hd h
  rcases oite h with ⟨hc, h⟩ | ⟨hn7, h⟩
  · refine zGo_sw dd242_9 (o := 210) (by rw [hc]; decide +kernel) rfl ?_
    exact f242_219_ok hd h
  rcases oite h with ⟨hc, h⟩ | ⟨hn8, h⟩
  · refine zGo_sw dd242_9 (o := 210) (by rw [hc]; decide +kernel) rfl ?_
    exact f242_219_ok hd h
  rcases oite h with ⟨hc, h⟩ | ⟨hn9, h⟩
  · refine zGo_sw dd242_9 (o := 219) (by rw [hc]; decide +kernel) rfl ?_
    exact f242_228_ok hd h
  rcases oite h with ⟨hc, h⟩ | ⟨hn10, h⟩
  · refine zGo_sw dd242_9 (o := 219) (by rw [hc]; decide +kernel) rfl ?_
    exact f242_228_ok hd h
  rcases oite h with ⟨hc, h⟩ | ⟨hn11, h⟩
  · refine zGo_sw dd242_9 (o := 228) (by rw [hc]; decide +kernel) rfl ?_
    exact f242_237_ok hd h
  rcases oite h with ⟨hc, h⟩ | ⟨hn12, h⟩
  · refine zGo_sw dd242_9 (o := 228) (by rw [hc]; decide +kernel) rfl ?_
    exact f242_237_ok hd h
  rcases oite h with ⟨hc, h⟩ | ⟨hn13, h⟩
  · refine zGo_sw dd242_9 (o := 228) (by rw [hc]; decide +kernel) rfl ?_
    exact f242_237_ok hd h
  rcases oite h with ⟨hc, h⟩ | ⟨hn14, h⟩
  · refine zGo_sw dd242_9 (o := 228) (by rw [hc]; decide +kernel) rfl ?_
    exact f242_237_ok hd h
  rcases oite h with ⟨hc, h⟩ | ⟨hn15, h⟩
  · refine zGo_sw dd242_9 (o := 246) (by rw [hc]; decide +kernel) rfl ?_
    exact f242_255_ok hd h
  rcases oite h with ⟨hc, h⟩ | ⟨hn16, h⟩
  · refine zGo_sw dd242_9 (o := 237) (by rw [hc]; decide +kernel) rfl ?_
    exact f242_246_ok hd h
  rcases oite h with ⟨hc, h⟩ | ⟨hn17, h⟩
  · refine zGo_sw dd242_9 (o := 237) (by rw [hc]; decide +kernel) rfl ?_
    exact f242_246_ok hd h
  rcases oite h with ⟨hc, h⟩ | ⟨hn18, h⟩
  · refine zGo_sw dd242_9 (o := 246) (by rw [hc]; decide +kernel) rfl ?_
    exact f242_255_ok hd h
  rcases oite h with ⟨hc, h⟩ | ⟨hn19, h⟩
  · refine zGo_sw dd242_9 (o := 246) (by rw [hc]; decide +kernel) rfl ?_
    exact f242_255_ok hd h
  rcases oite h with ⟨hc, h⟩ | ⟨hn20, h⟩
  · refine zGo_sw dd242_9 (o := 246) (by rw [hc]; decide +kernel) rfl ?_
    exact f242_255_ok hd h
  rcases oite h with ⟨hc, h⟩ | ⟨hn21, h⟩
  · refine zGo_sw dd242_9 (o := 246) (by rw [hc]; decide +kernel) rfl ?_
    exact f242_255_ok hd h
  refine zGo_sw dd242_9 (o := 255) (zto_d (by decide) (by decide) fun k hk => ?_) rfl ?_
  · have hk2 : k = 0 ∨ k = 1 ∨ k = 2 ∨ k = 3 ∨ k = 4 ∨ k = 5 ∨ k = 6 ∨ k = 7 ∨ k = 8 ∨ k = 9 ∨ k = 10 ∨ k = 11 ∨ k = 12 ∨ k = 13 ∨ k = 14 ∨ k = 15 ∨ k = 16 ∨ k = 17 ∨ k = 18 ∨ k = 19 ∨ k = 20 ∨ k = 21 ∨ k = 22 ∨ k = 23 ∨ k = 24 ∨ k = 25 ∨ k = 26 ∨ k = 27 := by omega
    rcases hk2 with rfl | rfl | rfl | rfl | rfl | rfl | rfl | rfl | rfl | rfl | rfl | rfl | rfl | rfl | rfl | rfl | rfl | rfl | rfl | rfl | rfl | rfl | rfl | rfl | rfl | rfl | rfl | rfl
    · exact Or.inr hn0
    · exact Or.inr hn1
    · exact Or.inr hn2
    · exact Or.inr hn3
    · exact Or.inr hn4
    · exact Or.inr hn5
    · exact Or.inr hn6
    · exact Or.inr hn7
    · exact Or.inr hn8
    · exact Or.inr hn9
    · exact Or.inr hn10
    · exact Or.inr hn11
    · exact Or.inr hn12
    · exact Or.inr hn13
    · exact Or.inr hn14
    · exact Or.inl rfl
    · exact Or.inl rfl
    · exact Or.inl rfl
    · exact Or.inl rfl
    · exact Or.inl rfl
    · exact Or.inl rfl
    · exact Or.inr hn15
    · exact Or.inr hn16
    · exact Or.inr hn17
    · exact Or.inr hn18
    · exact Or.inr hn19
    · exact Or.inr hn20
    · exact Or.inr hn21
  exact f242_264_ok hd h
/-! PHModel.reacts(II)V -/
theorem dd266_0 : decode cX13_reacts 0 = .ok (.aload_n 0, 1) := by decide +kernel
theorem dd266_1 : decode cX13_reacts 1 = .ok (.getfield 623, 3) := by decide +kernel
theorem dd266_4 : decode cX13_reacts 4 = .ok (.istore_n 3, 1) := by decide +kernel
theorem dd266_5 : decode cX13_reacts 5 = .ok (.aload_n 0, 1) := by decide +kernel
theorem dd266_6 : decode cX13_reacts 6 = .ok (.iconst 0, 1) := by decide +kernel
theorem dd266_7 : decode cX13_reacts 7 = .ok (.putfield 623, 3) := by decide +kernel
theorem dd266_10 : decode cX13_reacts 10 = .ok (.aload_n 0, 1) := by decide +kernel
theorem dd266_11 : decode cX13_reacts 11 = .ok (.getfield 571, 3) := by decide +kernel
theorem dd266_14 : decode cX13_reacts 14 = .ok (.bipush 100, 2) := by decide +kernel
theorem dd266_16 : decode cX13_reacts 16 = .ok (.if_icmp .ge 33, 3) := by decide +kernel
theorem dd266_19 : decode cX13_reacts 19 = .ok (.aload_n 0, 1) := by decide +kernel
theorem dd266_20 : decode cX13_reacts 20 = .ok (.getfield 82, 3) := by decide +kernel
theorem dd266_23 : decode cX13_reacts 23 = .ok (.aload_n 0, 1) := by decide +kernel
theorem dd266_24 : decode cX13_reacts 24 = .ok (.getfield 571, 3) := by decide +kernel
theorem dd266_27 : decode cX13_reacts 27 = .ok (.iload_n 1, 1) := by decide +kernel
theorem dd266_28 : decode cX13_reacts 28 = .ok (.iastore, 1) := by decide +kernel
theorem dd266_29 : decode cX13_reacts 29 = .ok (.aload_n 0, 1) := by decide +kernel
theorem dd266_30 : decode cX13_reacts 30 = .ok (.getfield 85, 3) := by decide +kernel
theorem dd266_33 : decode cX13_reacts 33 = .ok (.aload_n 0, 1) := by decide +kernel
theorem dd266_34 : decode cX13_reacts 34 = .ok (.getfield 571, 3) := by decide +kernel
theorem dd266_37 : decode cX13_reacts 37 = .ok (.iload_n 3, 1) := by decide +kernel
theorem dd266_38 : decode cX13_reacts 38 = .ok (.iastore, 1) := by decide +kernel
theorem dd266_39 : decode cX13_reacts 39 = .ok (.aload_n 0, 1) := by decide +kernel
theorem dd266_40 : decode cX13_reacts 40 = .ok (.getfield 88, 3) := by decide +kernel
theorem dd266_43 : decode cX13_reacts 43 = .ok (.aload_n 0, 1) := by decide +kernel
theorem dd266_44 : decode cX13_reacts 44 = .ok (.getfield 571, 3) := by decide +kernel
theorem dd266_47 : decode cX13_reacts 47 = .ok (.iload_n 2, 1) := by decide +kernel
theorem dd266_48 : decode cX13_reacts 48 = .ok (.iastore, 1) := by decide +kernel
theorem dd266_49 : decode cX13_reacts 49 = .ok (.aload_n 0, 1) := by decide +kernel
theorem dd266_50 : decode cX13_reacts 50 = .ok (.dup, 1) := by decide +kernel
theorem dd266_51 : decode cX13_reacts 51 = .ok (.getfield 571, 3) := by decide +kernel
theorem dd266_54 : decode cX13_reacts 54 = .ok (.iconst 1, 1) := by decide +kernel
theorem dd266_55 : decode cX13_reacts 55 = .ok (.iadd, 1) := by decide +kernel
theorem dd266_56 : decode cX13_reacts 56 = .ok (.putfield 571, 3) := by decide +kernel
theorem dd266_59 : decode cX13_reacts 59 = .ok (.aload_n 0, 1) := by decide +kernel
theorem dd266_60 : decode cX13_reacts 60 = .ok (.dup, 1) := by decide +kernel
theorem dd266_61 : decode cX13_reacts 61 = .ok (.getfield 650, 3) := by decide +kernel
theorem dd266_64 : decode cX13_reacts 64 = .ok (.iconst 1, 1) := by decide +kernel
theorem dd266_65 : decode cX13_reacts 65 = .ok (.iadd, 1) := by decide +kernel
theorem dd266_66 : decode cX13_reacts 66 = .ok (.putfield 650, 3) := by decide +kernel
theorem dd266_69 : decode cX13_reacts 69 = .ok (.aload_n 0, 1) := by decide +kernel
theorem dd266_70 : decode cX13_reacts 70 = .ok (.getfield 115, 3) := by decide +kernel
theorem dd266_73 : decode cX13_reacts 73 = .ok (.iload_n 1, 1) := by decide +kernel
theorem dd266_74 : decode cX13_reacts 74 = .ok (.iload_n 3, 1) := by decide +kernel
theorem dd266_75 : decode cX13_reacts 75 = .ok (.iastore, 1) := by decide +kernel
theorem dd266_76 : decode cX13_reacts 76 = .ok (.aload_n 0, 1) := by decide +kernel
theorem dd266_77 : decode cX13_reacts 77 = .ok (.getfield 121, 3) := by decide +kernel
theorem dd266_80 : decode cX13_reacts 80 = .ok (.iload_n 1, 1) := by decide +kernel
theorem dd266_81 : decode cX13_reacts 81 = .ok (.iaload, 1) := by decide +kernel
theorem dd266_82 : decode cX13_reacts 82 = .ok (.iconst 1, 1) := by decide +kernel
theorem dd266_83 : decode cX13_reacts 83 = .ok (.isub, 1) := by decide +kernel
theorem dd266_84 : decode cX13_reacts 84 = .ok (.istore 4, 2) := by decide +kernel
theorem dd266_86 : decode cX13_reacts 86 = .ok (.iload 4, 2) := by decide +kernel
theorem dd266_88 : decode cX13_reacts 88 = .ok (.ifCond .lt 158, 3) := by decide +kernel
theorem dd266_91 : decode cX13_reacts 91 = .ok (.aload_n 0, 1) := by decide +kernel
theorem dd266_92 : decode cX13_reacts 92 = .ok (.getfield 124, 3) := by decide +kernel
theorem dd266_95 : decode cX13_reacts 95 = .ok (.sipush 140, 3) := by decide +kernel
theorem dd266_98 : decode cX13_reacts 98 = .ok (.iload_n 1, 1) := by decide +kernel
theorem dd266_99 : decode cX13_reacts 99 = .ok (.imul, 1) := by decide +kernel
theorem dd266_100 : decode cX13_reacts 100 = .ok (.iload 4, 2) := by decide +kernel
theorem dd266_102 : decode cX13_reacts 102 = .ok (.iadd, 1) := by decide +kernel
theorem dd266_103 : decode cX13_reacts 103 = .ok (.iaload, 1) := by decide +kernel
theorem dd266_104 : decode cX13_reacts 104 = .ok (.istore 5, 2) := by decide +kernel
theorem dd266_106 : decode cX13_reacts 106 = .ok (.aload_n 0, 1) := by decide +kernel
theorem dd266_107 : decode cX13_reacts 107 = .ok (.getfield 20, 3) := by decide +kernel
theorem dd266_110 : decode cX13_reacts 110 = .ok (.getfield 351, 3) := by decide +kernel
theorem dd266_113 : decode cX13_reacts 113 = .ok (.bipush 20, 2) := by decide +kernel
theorem dd266_115 : decode cX13_reacts 115 = .ok (.iload 5, 2) := by decide +kernel
theorem dd266_117 : decode cX13_reacts 117 = .ok (.imul, 1) := by decide +kernel
theorem dd266_118 : decode cX13_reacts 118 = .ok (.iload_n 3, 1) := by decide +kernel
theorem dd266_119 : decode cX13_reacts 119 = .ok (.iadd, 1) := by decide +kernel
theorem dd266_120 : decode cX13_reacts 120 = .ok (.iaload, 1) := by decide +kernel
theorem dd266_121 : decode cX13_reacts 121 = .ok (.iconst (-1), 1) := by decide +kernel
theorem dd266_122 : decode cX13_reacts 122 = .ok (.if_icmp .eq 21, 3) := by decide +kernel
theorem dd266_125 : decode cX13_reacts 125 = .ok (.aload_n 0, 1) := by decide +kernel
theorem dd266_126 : decode cX13_reacts 126 = .ok (.getfield 20, 3) := by decide +kernel
theorem dd266_129 : decode cX13_reacts 129 = .ok (.getfield 351, 3) := by decide +kernel
theorem dd266_132 : decode cX13_reacts 132 = .ok (.bipush 20, 2) := by decide +kernel
theorem dd266_134 : decode cX13_reacts 134 = .ok (.iload 5, 2) := by decide +kernel
theorem dd266_136 : decode cX13_reacts 136 = .ok (.imul, 1) := by decide +kernel
theorem dd266_137 : decode cX13_reacts 137 = .ok (.iload_n 3, 1) := by decide +kernel
theorem dd266_138 : decode cX13_reacts 138 = .ok (.iadd, 1) := by decide +kernel
theorem dd266_139 : decode cX13_reacts 139 = .ok (.iaload, 1) := by decide +kernel
theorem dd266_140 : decode cX13_reacts 140 = .ok (.goto 16, 3) := by decide +kernel
theorem dd266_143 : decode cX13_reacts 143 = .ok (.aload_n 0, 1) := by decide +kernel
theorem dd266_144 : decode cX13_reacts 144 = .ok (.getfield 20, 3) := by decide +kernel
theorem dd266_147 : decode cX13_reacts 147 = .ok (.getfield 351, 3) := by decide +kernel
theorem dd266_150 : decode cX13_reacts 150 = .ok (.bipush 20, 2) := by decide +kernel
theorem dd266_152 : decode cX13_reacts 152 = .ok (.iload 5, 2) := by decide +kernel
theorem dd266_154 : decode cX13_reacts 154 = .ok (.imul, 1) := by decide +kernel
theorem dd266_155 : decode cX13_reacts 155 = .ok (.iaload, 1) := by decide +kernel
theorem dd266_156 : decode cX13_reacts 156 = .ok (.istore 6, 2) := by decide +kernel
theorem dd266_158 : decode cX13_reacts 158 = .ok (.iload 6, 2) := by decide +kernel
theorem dd266_160 : decode cX13_reacts 160 = .ok (.iconst (-1), 1) := by decide +kernel
theorem dd266_161 : decode cX13_reacts 161 = .ok (.if_icmp .eq 79, 3) := by decide +kernel
theorem dd266_164 : decode cX13_reacts 164 = .ok (.aload_n 0, 1) := by decide +kernel
theorem dd266_165 : decode cX13_reacts 165 = .ok (.dup, 1) := by decide +kernel
theorem dd266_166 : decode cX13_reacts 166 = .ok (.getfield 574, 3) := by decide +kernel
theorem dd266_169 : decode cX13_reacts 169 = .ok (.iconst 1, 1) := by decide +kernel
theorem dd266_170 : decode cX13_reacts 170 = .ok (.iadd, 1) := by decide +kernel
theorem dd266_171 : decode cX13_reacts 171 = .ok (.putfield 574, 3) := by decide +kernel
theorem dd266_174 : decode cX13_reacts 174 = .ok (.aload_n 0, 1) := by decide +kernel
theorem dd266_175 : decode cX13_reacts 175 = .ok (.getfield 121, 3) := by decide +kernel
theorem dd266_178 : decode cX13_reacts 178 = .ok (.iload_n 1, 1) := by decide +kernel
theorem dd266_179 : decode cX13_reacts 179 = .ok (.iaload, 1) := by decide +kernel
theorem dd266_180 : decode cX13_reacts 180 = .ok (.iload 4, 2) := by decide +kernel
theorem dd266_182 : decode cX13_reacts 182 = .ok (.iconst 1, 1) := by decide +kernel
theorem dd266_183 : decode cX13_reacts 183 = .ok (.iadd, 1) := by decide +kernel
theorem dd266_184 : decode cX13_reacts 184 = .ok (.if_icmp .le 12, 3) := by decide +kernel
theorem dd266_187 : decode cX13_reacts 187 = .ok (.aload_n 0, 1) := by decide +kernel
theorem dd266_188 : decode cX13_reacts 188 = .ok (.iload_n 1, 1) := by decide +kernel
theorem dd266_189 : decode cX13_reacts 189 = .ok (.invokevirtual 594, 3) := by decide +kernel
theorem dd266_192 : decode cX13_reacts 192 = .ok (.pop, 1) := by decide +kernel
theorem dd266_193 : decode cX13_reacts 193 = .ok (.goto (-19), 3) := by decide +kernel
theorem dd266_196 : decode cX13_reacts 196 = .ok (.aload_n 0, 1) := by decide +kernel
theorem dd266_197 : decode cX13_reacts 197 = .ok (.getfield 124, 3) := by decide +kernel
theorem dd266_200 : decode cX13_reacts 200 = .ok (.sipush 140, 3) := by decide +kernel
theorem dd266_203 : decode cX13_reacts 203 = .ok (.iload_n 1, 1) := by decide +kernel
theorem dd266_204 : decode cX13_reacts 204 = .ok (.imul, 1) := by decide +kernel
theorem dd266_205 : decode cX13_reacts 205 = .ok (.iload 4, 2) := by decide +kernel
theorem dd266_207 : decode cX13_reacts 207 = .ok (.iadd, 1) := by decide +kernel
theorem dd266_208 : decode cX13_reacts 208 = .ok (.iload 6, 2) := by decide +kernel
theorem dd266_210 : decode cX13_reacts 210 = .ok (.iastore, 1) := by decide +kernel
theorem dd266_211 : decode cX13_reacts 211 = .ok (.aload_n 0, 1) := by decide +kernel
theorem dd266_212 : decode cX13_reacts 212 = .ok (.getfield 127, 3) := by decide +kernel
theorem dd266_215 : decode cX13_reacts 215 = .ok (.sipush 140, 3) := by decide +kernel
theorem dd266_218 : decode cX13_reacts 218 = .ok (.iload_n 1, 1) := by decide +kernel
theorem dd266_219 : decode cX13_reacts 219 = .ok (.imul, 1) := by decide +kernel
theorem dd266_220 : decode cX13_reacts 220 = .ok (.iload 4, 2) := by decide +kernel
theorem dd266_222 : decode cX13_reacts 222 = .ok (.iadd, 1) := by decide +kernel
theorem dd266_223 : decode cX13_reacts 223 = .ok (.aload_n 0, 1) := by decide +kernel
theorem dd266_224 : decode cX13_reacts 224 = .ok (.getfield 20, 3) := by decide +kernel
theorem dd266_227 : decode cX13_reacts 227 = .ok (.getfield 348, 3) := by decide +kernel
theorem dd266_230 : decode cX13_reacts 230 = .ok (.iload 6, 2) := by decide +kernel
theorem dd266_232 : decode cX13_reacts 232 = .ok (.iaload, 1) := by decide +kernel
theorem dd266_233 : decode cX13_reacts 233 = .ok (.iastore, 1) := by decide +kernel
theorem dd266_234 : decode cX13_reacts 234 = .ok (.aload_n 0, 1) := by decide +kernel
theorem dd266_235 : decode cX13_reacts 235 = .ok (.iload_n 1, 1) := by decide +kernel
theorem dd266_236 : decode cX13_reacts 236 = .ok (.invokevirtual 607, 3) := by decide +kernel
theorem dd266_239 : decode cX13_reacts 239 = .ok (.return_, 1) := by decide +kernel
theorem dd266_240 : decode cX13_reacts 240 = .ok (.iinc 4 (-1), 3) := by decide +kernel
theorem dd266_243 : decode cX13_reacts 243 = .ok (.goto (-157), 3) := by decide +kernel
theorem dd266_246 : decode cX13_reacts 246 = .ok (.aload_n 0, 1) := by decide +kernel
theorem dd266_247 : decode cX13_reacts 247 = .ok (.iload_n 1, 1) := by decide +kernel
theorem dd266_248 : decode cX13_reacts 248 = .ok (.invokevirtual 600, 3) := by decide +kernel
theorem dd266_251 : decode cX13_reacts 251 = .ok (.return_, 1) := by decide +kernel
def f266_174 (n : Nat) : Nat → Int32 → Int32 → Int32 → zσ → Option zσ
  | 0, _, _, _, _ => none
  | j + 1, x1, x4, x6, s =>
    if zin? x1 8 = true then
    if (x4 + (1 : Int32)) < (s.1 1235 (nx x1)) then
    yb1 (f215 n x1 s) fun v6 u5 =>
    f266_174 n j x1 x4 x6 u5
    else if zin? (((140 : Int32) * x1) + x4) 1120 = true then
    zlet (sI s 1236 (nx (((140 : Int32) * x1) + x4)) x6) fun u1 =>
    zrd 12 (u1.2.2 1132 11) fun a2 =>
    if zin? x6 2000 = true then
    if zin? (((140 : Int32) * x1) + x4) 1120 = true then
    zlet (sI u1 1237 (nx (((140 : Int32) * x1) + x4)) (u1.1 (a2 + 13) (nx x6))) fun u3 =>
    yb0 (f213 n (f219 n 4) x1 u3) fun u4 =>
    some u4
    else none
    else none
    else none
    else none
set_option maxRecDepth 20000 in
theorem f266_174_ok {n d : Nat} (hd : 25 ≤ d) : ∀ (j : Nat) (x1 : Int32) (x4 : Int32) (x6 : Int32) (s : zσ) (s2 : zσ), f266_174 n j x1 x4 x6 s = some s2 → ∀ {w : zσ} {fz : Bool} {L : Nat} {xs : Nat → Int32}, zGo (zX fz L xs) d q_266 (174, [(0, .ref 1132), (1, .int x1), (4, .int x4), (6, .int x6)], [], zmk w s, 0, 0) (none, zmk w s2, 0, 0) := by
  obtain ⟨d, rfl⟩ : ∃ d0, d = d0 + 1 := ⟨d - 1, by omega⟩
  intro j
  induction j with
  | zero => intro x1 x4 x6 s s2 h; cases h
  | succ j ih =>
    intro x1 x4 x6 s s2 h w fz L xs
    rw [f266_174] at h
    refine zGo_s (pc' := 175) (st' := [.ref 1132]) dd266_174 rfl ?_
    refine mGF (e := 1235) dd266_175 rfl rfl rfl rfl rfl ?_
    refine zGo_s (pc' := 179) (st' := [.int x1, .ref 1235]) dd266_178 rfl ?_
    obtain ⟨hi, h⟩ := ochk h
    refine mIA dd266_179 rfl rfl hi ?_
    refine zGo_s (pc' := 182) (st' := [.int x4, .int (s.1 1235 (nx x1))]) dd266_180 rfl ?_
    refine zGo_s (pc' := 183) (st' := [.int (1 : Int32), .int x4, .int (s.1 1235 (nx x1))]) dd266_182 rfl ?_
    refine zGo_s (pc' := 184) (st' := [.int (x4 + (1 : Int32)), .int (s.1 1235 (nx x1))]) dd266_183 rfl ?_
    rcases oite h with ⟨hc, h⟩ | ⟨hc, h⟩
    · refine zIF dd266_184 (kLeF hc) ?_
      refine zGo_s (pc' := 188) (st' := [.ref 1132]) dd266_187 rfl ?_
      refine zGo_s (pc' := 189) (st' := [.int x1, .ref 1132]) dd266_188 rfl ?_
      obtain ⟨v6, u5, hq, h⟩ := obnd h
      refine zCV1 (As := [.int x1]) (rest := []) (b := 1132) (q' := q_215) dd266_189 rfl rfl (rcv_m rfl rfl (by decide)) rfl rfl rfl (f215_ok (d := d) (by omega)  hq) ?_
      refine zGo_s (pc' := 193) (st' := []) dd266_192 rfl ?_
      refine zGo_s (pc' := 174) (st' := []) dd266_193 rfl ?_
      exact ih _ _ _ _ _ h
    · refine zIT dd266_184 rfl (kLeT hc) ?_
      refine zGo_s (pc' := 197) (st' := [.ref 1132]) dd266_196 rfl ?_
      refine mGF (e := 1236) dd266_197 rfl rfl rfl rfl rfl ?_
      refine zGo_s (pc' := 203) (st' := [.int (140 : Int32), .ref 1236]) dd266_200 rfl ?_
      refine zGo_s (pc' := 204) (st' := [.int x1, .int (140 : Int32), .ref 1236]) dd266_203 rfl ?_
      refine zGo_s (pc' := 205) (st' := [.int ((140 : Int32) * x1), .ref 1236]) dd266_204 rfl ?_
      refine zGo_s (pc' := 207) (st' := [.int x4, .int ((140 : Int32) * x1), .ref 1236]) dd266_205 rfl ?_
      refine zGo_s (pc' := 208) (st' := [.int (((140 : Int32) * x1) + x4), .ref 1236]) dd266_207 rfl ?_
      refine zGo_s (pc' := 210) (st' := [.int x6, .int (((140 : Int32) * x1) + x4), .ref 1236]) dd266_208 rfl ?_
      obtain ⟨hi, h⟩ := ochk h
      obtain ⟨u1, e_u1, h⟩ := olet h
      refine mIS dd266_210 rfl rfl hi e_u1 ?_
      refine zGo_s (pc' := 212) (st' := [.ref 1132]) dd266_211 rfl ?_
      refine mGF (e := 1237) dd266_212 rfl rfl rfl rfl rfl ?_
      refine zGo_s (pc' := 218) (st' := [.int (140 : Int32), .ref 1237]) dd266_215 rfl ?_
      refine zGo_s (pc' := 219) (st' := [.int x1, .int (140 : Int32), .ref 1237]) dd266_218 rfl ?_
      refine zGo_s (pc' := 220) (st' := [.int ((140 : Int32) * x1), .ref 1237]) dd266_219 rfl ?_
      refine zGo_s (pc' := 222) (st' := [.int x4, .int ((140 : Int32) * x1), .ref 1237]) dd266_220 rfl ?_
      refine zGo_s (pc' := 223) (st' := [.int (((140 : Int32) * x1) + x4), .ref 1237]) dd266_222 rfl ?_
      refine zGo_s (pc' := 224) (st' := [.ref 1132, .int (((140 : Int32) * x1) + x4), .ref 1237]) dd266_223 rfl ?_
      obtain ⟨a2, e_a2, c_a2, h⟩ := ordd h
      refine mGR dd266_224 rfl rfl rfl rfl e_a2 ?_
      refine mGF (e := (a2 + 13)) dd266_227 rfl (ck12_s c_a2).1 (ck12_s c_a2).2 rfl (cf12_14 c_a2).1 ?_
      refine zGo_s (pc' := 232) (st' := [.int x6, .ref (a2 + 13), .int (((140 : Int32) * x1) + x4), .ref 1237]) dd266_230 rfl ?_
      obtain ⟨hi, h⟩ := ochk h
      refine mIA dd266_232 (cf12_14 c_a2).2.1 (cf12_14 c_a2).2.2 hi ?_
      obtain ⟨hi, h⟩ := ochk h
      obtain ⟨u3, e_u3, h⟩ := olet h
      refine mIS dd266_233 rfl rfl hi e_u3 ?_
      refine zGo_s (pc' := 235) (st' := [.ref 1132]) dd266_234 rfl ?_
      refine zGo_s (pc' := 236) (st' := [.int x1, .ref 1132]) dd266_235 rfl ?_
      obtain ⟨u4, hq, h⟩ := obn0 h
      refine zCV0 (As := [.int x1]) (rest := []) (b := 1132) (q' := q_213) dd266_236 rfl rfl (rcv_m rfl rfl (by decide)) rfl rfl rfl (f213_ok (d := d) (Df := 23) (by omega) f219_okk4  hq) ?_
      obtain rfl := ore0 h
      exact zGo_ret dd266_239 rfl rfl
def f266_156 (n : Nat) (r86 : Int32 → Int32 → Int32 → zσ → Option zσ) (x1 : Int32) (x3 : Int32) (x4 : Int32) (y0 : Int32) (s : zσ) : Option zσ :=
    if y0 = (-1 : Int32) then
    r86 x1 x3 (x4 + (-1 : Int32)) s
    else zlet (sI s 1132 25 ((s.1 1132 25) + (1 : Int32))) fun u1 =>
    f266_174 n n x1 x4 y0 u1
set_option maxRecDepth 20000 in
theorem f266_156_ok {n d : Nat} {r86 : Int32 → Int32 → Int32 → zσ → Option zσ} {x1 : Int32} {x3 : Int32} {x4 : Int32} {y0 : Int32} {s : zσ} {s2 : zσ} (hd : 25 ≤ d) (hr86 : ∀ (x1 : Int32) (x3 : Int32) (x4 : Int32) (s : zσ) (s2 : zσ), r86 x1 x3 x4 s = some s2 → ∀ {w : zσ} {fz : Bool} {L : Nat} {xs : Nat → Int32}, zGo (zX fz L xs) d q_266 (86, [(0, .ref 1132), (1, .int x1), (3, .int x3), (4, .int x4)], [], zmk w s, 0, 0) (none, zmk w s2, 0, 0)) (h : f266_156 n r86 x1 x3 x4 y0 s = some s2) {w : zσ} {fz : Bool} {L : Nat} {xs : Nat → Int32} : zGo (zX fz L xs) d q_266 (156, [(0, .ref 1132), (1, .int x1), (3, .int x3), (4, .int x4)], [.int y0], zmk w s, 0, 0) (none, zmk w s2, 0, 0) := by
  obtain ⟨d, rfl⟩ : ∃ d0, d = d0 + 1 := ⟨d - 1, by omega⟩
  unfold f266_156 at h
  refine zGo_s (pc' := 158) (st' := []) (lv' := [(6, .int y0), (0, .ref 1132), (1, .int x1), (3, .int x3), (4, .int x4)]) dd266_156 rfl ?_
  refine zGo_s (pc' := 160) (st' := [.int y0]) dd266_158 rfl ?_
  refine zGo_s (pc' := 161) (st' := [.int (-1 : Int32), .int y0]) dd266_160 rfl ?_
  rcases oite h with ⟨hc, h⟩ | ⟨hc, h⟩
  · refine zIT dd266_161 rfl (kEqT hc) ?_
    refine zGo_s (pc' := 243) (st' := []) (lv' := [(4, .int (x4 + (-1 : Int32))), (6, .int y0), (0, .ref 1132), (1, .int x1), (3, .int x3)]) dd266_240 rfl ?_
    refine zGo_s (pc' := 86) (st' := []) dd266_243 rfl ?_
    exact zGo_lv (lv := [(0, .ref 1132), (1, .int x1), (3, .int x3), (4, .int (x4 + (-1 : Int32)))]) ⟨by simp, by simp, by simp⟩ (hr86 _ _ _ _ _ h)
  · refine zIF dd266_161 (kEqF hc) ?_
    refine zGo_s (pc' := 165) (st' := [.ref 1132]) dd266_164 rfl ?_
    refine zGo_s (pc' := 166) (st' := [.ref 1132, .ref 1132]) dd266_165 rfl ?_
    refine mGI dd266_166 rfl rfl rfl rfl ?_
    refine zGo_s (pc' := 170) (st' := [.int (1 : Int32), .int (s.1 1132 25), .ref 1132]) dd266_169 rfl ?_
    refine zGo_s (pc' := 171) (st' := [.int ((s.1 1132 25) + (1 : Int32)), .ref 1132]) dd266_170 rfl ?_
    obtain ⟨u1, e_u1, h⟩ := olet h
    refine mPI dd266_171 rfl rfl rfl rfl rfl rfl e_u1 ?_
    exact zGo_lv (lv := [(0, .ref 1132), (1, .int x1), (4, .int x4), (6, .int y0)]) ⟨by simp, by simp, by simp⟩ (f266_174_ok hd _ _ _ _ _ _ h)
def f266_86 (n : Nat) : Nat → Int32 → Int32 → Int32 → zσ → Option zσ
  | 0, _, _, _, _ => none
  | j + 1, x1, x3, x4, s =>
    if x4 < (0 : Int32) then
    yb0 (f219 n 4 x1 s) fun u1 =>
    some u1
    else if zin? (((140 : Int32) * x1) + x4) 1120 = true then
    zlet ((s.1 1236 (nx (((140 : Int32) * x1) + x4)))) fun v2 =>
    zrd 12 (s.2.2 1132 11) fun a3 =>
    if zin? (((20 : Int32) * v2) + x3) 40000 = true then
    if (s.1 (a3 + 14) (nx (((20 : Int32) * v2) + x3))) = (-1 : Int32) then
    zrd 12 (s.2.2 1132 11) fun a4 =>
    if zin? ((20 : Int32) * v2) 40000 = true then
    f266_156 n (f266_86 n j) x1 x3 x4 (s.1 (a4 + 14) (nx ((20 : Int32) * v2))) s
    else none
    else zrd 12 (s.2.2 1132 11) fun a5 =>
    if zin? (((20 : Int32) * v2) + x3) 40000 = true then
    f266_156 n (f266_86 n j) x1 x3 x4 (s.1 (a5 + 14) (nx (((20 : Int32) * v2) + x3))) s
    else none
    else none
    else none
set_option maxRecDepth 20000 in
theorem f266_86_ok {n d : Nat} (hd : 25 ≤ d) : ∀ (j : Nat) (x1 : Int32) (x3 : Int32) (x4 : Int32) (s : zσ) (s2 : zσ), f266_86 n j x1 x3 x4 s = some s2 → ∀ {w : zσ} {fz : Bool} {L : Nat} {xs : Nat → Int32}, zGo (zX fz L xs) d q_266 (86, [(0, .ref 1132), (1, .int x1), (3, .int x3), (4, .int x4)], [], zmk w s, 0, 0) (none, zmk w s2, 0, 0) := by
  obtain ⟨d, rfl⟩ : ∃ d0, d = d0 + 1 := ⟨d - 1, by omega⟩
  intro j
  induction j with
  | zero => intro x1 x3 x4 s s2 h; cases h
  | succ j ih =>
    intro x1 x3 x4 s s2 h w fz L xs
    rw [f266_86] at h
    refine zGo_s (pc' := 88) (st' := [.int x4]) dd266_86 rfl ?_
    rcases oite h with ⟨hc, h⟩ | ⟨hc, h⟩
    · refine zUT dd266_88 rfl (kLtT hc) ?_
      refine zGo_s (pc' := 247) (st' := [.ref 1132]) dd266_246 rfl ?_
      refine zGo_s (pc' := 248) (st' := [.int x1, .ref 1132]) dd266_247 rfl ?_
      obtain ⟨u1, hq, h⟩ := obn0 h
      refine zCV0 (As := [.int x1]) (rest := []) (b := 1132) (q' := q_219) dd266_248 rfl rfl (rcv_m rfl rfl (by decide)) rfl rfl rfl (f219_okk4 _ _ _  hq (by omega)) ?_
      obtain rfl := ore0 h
      exact zGo_ret dd266_251 rfl rfl
    · refine zUF dd266_88 (kLtF hc) ?_
      refine zGo_s (pc' := 92) (st' := [.ref 1132]) dd266_91 rfl ?_
      refine mGF (e := 1236) dd266_92 rfl rfl rfl rfl rfl ?_
      refine zGo_s (pc' := 98) (st' := [.int (140 : Int32), .ref 1236]) dd266_95 rfl ?_
      refine zGo_s (pc' := 99) (st' := [.int x1, .int (140 : Int32), .ref 1236]) dd266_98 rfl ?_
      refine zGo_s (pc' := 100) (st' := [.int ((140 : Int32) * x1), .ref 1236]) dd266_99 rfl ?_
      refine zGo_s (pc' := 102) (st' := [.int x4, .int ((140 : Int32) * x1), .ref 1236]) dd266_100 rfl ?_
      refine zGo_s (pc' := 103) (st' := [.int (((140 : Int32) * x1) + x4), .ref 1236]) dd266_102 rfl ?_
      obtain ⟨hi, h⟩ := ochk h
      refine mIA dd266_103 rfl rfl hi ?_
      obtain ⟨v2, e_v2, h⟩ := olet h
      refine zGo_is1 e_v2 dd266_104 (x' := (106, [(5, .int v2), (0, .ref 1132), (1, .int x1), (3, .int x3), (4, .int x4)], [], _, _, _)) rfl ?_
      refine zGo_s (pc' := 107) (st' := [.ref 1132]) dd266_106 rfl ?_
      obtain ⟨a3, e_a3, c_a3, h⟩ := ordd h
      refine mGR dd266_107 rfl rfl rfl rfl e_a3 ?_
      refine mGF (e := (a3 + 14)) dd266_110 rfl (ck12_s c_a3).1 (ck12_s c_a3).2 rfl (cf12_15 c_a3).1 ?_
      refine zGo_s (pc' := 115) (st' := [.int (20 : Int32), .ref (a3 + 14)]) dd266_113 rfl ?_
      refine zGo_s (pc' := 117) (st' := [.int v2, .int (20 : Int32), .ref (a3 + 14)]) dd266_115 rfl ?_
      refine zGo_s (pc' := 118) (st' := [.int ((20 : Int32) * v2), .ref (a3 + 14)]) dd266_117 rfl ?_
      refine zGo_s (pc' := 119) (st' := [.int x3, .int ((20 : Int32) * v2), .ref (a3 + 14)]) dd266_118 rfl ?_
      refine zGo_s (pc' := 120) (st' := [.int (((20 : Int32) * v2) + x3), .ref (a3 + 14)]) dd266_119 rfl ?_
      obtain ⟨hi, h⟩ := ochk h
      refine mIA dd266_120 (cf12_15 c_a3).2.1 (cf12_15 c_a3).2.2 hi ?_
      refine zGo_s (pc' := 122) (st' := [.int (-1 : Int32), .int (s.1 (a3 + 14) (nx (((20 : Int32) * v2) + x3)))]) dd266_121 rfl ?_
      rcases oite h with ⟨hc, h⟩ | ⟨hc, h⟩
      · refine zIT dd266_122 rfl (kEqT hc) ?_
        refine zGo_s (pc' := 144) (st' := [.ref 1132]) dd266_143 rfl ?_
        obtain ⟨a4, e_a4, c_a4, h⟩ := ordd h
        refine mGR dd266_144 rfl rfl rfl rfl e_a4 ?_
        refine mGF (e := (a4 + 14)) dd266_147 rfl (ck12_s c_a4).1 (ck12_s c_a4).2 rfl (cf12_15 c_a4).1 ?_
        refine zGo_s (pc' := 152) (st' := [.int (20 : Int32), .ref (a4 + 14)]) dd266_150 rfl ?_
        refine zGo_s (pc' := 154) (st' := [.int v2, .int (20 : Int32), .ref (a4 + 14)]) dd266_152 rfl ?_
        refine zGo_s (pc' := 155) (st' := [.int ((20 : Int32) * v2), .ref (a4 + 14)]) dd266_154 rfl ?_
        obtain ⟨hi, h⟩ := ochk h
        refine mIA dd266_155 (cf12_15 c_a4).2.1 (cf12_15 c_a4).2.2 hi ?_
        exact zGo_lv (lv := [(0, .ref 1132), (1, .int x1), (3, .int x3), (4, .int x4)]) ⟨by simp, by simp, by simp⟩ (f266_156_ok hd ih h)
      · refine zIF dd266_122 (kEqF hc) ?_
        refine zGo_s (pc' := 126) (st' := [.ref 1132]) dd266_125 rfl ?_
        obtain ⟨a5, e_a5, c_a5, h⟩ := ordd h
        refine mGR dd266_126 rfl rfl rfl rfl e_a5 ?_
        refine mGF (e := (a5 + 14)) dd266_129 rfl (ck12_s c_a5).1 (ck12_s c_a5).2 rfl (cf12_15 c_a5).1 ?_
        refine zGo_s (pc' := 134) (st' := [.int (20 : Int32), .ref (a5 + 14)]) dd266_132 rfl ?_
        refine zGo_s (pc' := 136) (st' := [.int v2, .int (20 : Int32), .ref (a5 + 14)]) dd266_134 rfl ?_
        refine zGo_s (pc' := 137) (st' := [.int ((20 : Int32) * v2), .ref (a5 + 14)]) dd266_136 rfl ?_
        refine zGo_s (pc' := 138) (st' := [.int x3, .int ((20 : Int32) * v2), .ref (a5 + 14)]) dd266_137 rfl ?_
        refine zGo_s (pc' := 139) (st' := [.int (((20 : Int32) * v2) + x3), .ref (a5 + 14)]) dd266_138 rfl ?_
        obtain ⟨hi, h⟩ := ochk h
        refine mIA dd266_139 (cf12_15 c_a5).2.1 (cf12_15 c_a5).2.2 hi ?_
        refine zGo_s (pc' := 156) (st' := [.int (s.1 (a5 + 14) (nx (((20 : Int32) * v2) + x3)))]) dd266_140 rfl ?_
        exact zGo_lv (lv := [(0, .ref 1132), (1, .int x1), (3, .int x3), (4, .int x4)]) ⟨by simp, by simp, by simp⟩ (f266_156_ok hd ih h)
def f266_49 (n : Nat) (x1 : Int32) (x3 : Int32) (s : zσ) : Option zσ :=
    zlet (sI s 1132 24 ((s.1 1132 24) + (1 : Int32))) fun u1 =>
    zlet (sI u1 1132 29 ((u1.1 1132 29) + (1 : Int32))) fun u2 =>
    if zin? x1 8 = true then
    zlet (sI u2 1233 (nx x1) x3) fun u3 =>
    if zin? x1 8 = true then
    zlet (((u3.1 1235 (nx x1)) - (1 : Int32))) fun v4 =>
    f266_86 n n x1 x3 v4 u3
    else none
    else none
set_option maxRecDepth 20000 in
theorem f266_49_ok {n d : Nat} {x1 : Int32} {x3 : Int32} {s : zσ} {s2 : zσ} (hd : 25 ≤ d) (h : f266_49 n x1 x3 s = some s2) {w : zσ} {fz : Bool} {L : Nat} {xs : Nat → Int32} : zGo (zX fz L xs) d q_266 (49, [(0, .ref 1132), (1, .int x1), (3, .int x3)], [], zmk w s, 0, 0) (none, zmk w s2, 0, 0) := by
  obtain ⟨d, rfl⟩ : ∃ d0, d = d0 + 1 := ⟨d - 1, by omega⟩
  unfold f266_49 at h
  refine zGo_s (pc' := 50) (st' := [.ref 1132]) dd266_49 rfl ?_
  refine zGo_s (pc' := 51) (st' := [.ref 1132, .ref 1132]) dd266_50 rfl ?_
  refine mGI dd266_51 rfl rfl rfl rfl ?_
  refine zGo_s (pc' := 55) (st' := [.int (1 : Int32), .int (s.1 1132 24), .ref 1132]) dd266_54 rfl ?_
  refine zGo_s (pc' := 56) (st' := [.int ((s.1 1132 24) + (1 : Int32)), .ref 1132]) dd266_55 rfl ?_
  obtain ⟨u1, e_u1, h⟩ := olet h
  refine mPI dd266_56 rfl rfl rfl rfl rfl rfl e_u1 ?_
  refine zGo_s (pc' := 60) (st' := [.ref 1132]) dd266_59 rfl ?_
  refine zGo_s (pc' := 61) (st' := [.ref 1132, .ref 1132]) dd266_60 rfl ?_
  refine mGI dd266_61 rfl rfl rfl rfl ?_
  refine zGo_s (pc' := 65) (st' := [.int (1 : Int32), .int (u1.1 1132 29), .ref 1132]) dd266_64 rfl ?_
  refine zGo_s (pc' := 66) (st' := [.int ((u1.1 1132 29) + (1 : Int32)), .ref 1132]) dd266_65 rfl ?_
  obtain ⟨u2, e_u2, h⟩ := olet h
  refine mPI dd266_66 rfl rfl rfl rfl rfl rfl e_u2 ?_
  refine zGo_s (pc' := 70) (st' := [.ref 1132]) dd266_69 rfl ?_
  refine mGF (e := 1233) dd266_70 rfl rfl rfl rfl rfl ?_
  refine zGo_s (pc' := 74) (st' := [.int x1, .ref 1233]) dd266_73 rfl ?_
  refine zGo_s (pc' := 75) (st' := [.int x3, .int x1, .ref 1233]) dd266_74 rfl ?_
  obtain ⟨hi, h⟩ := ochk h
  obtain ⟨u3, e_u3, h⟩ := olet h
  refine mIS dd266_75 rfl rfl hi e_u3 ?_
  refine zGo_s (pc' := 77) (st' := [.ref 1132]) dd266_76 rfl ?_
  refine mGF (e := 1235) dd266_77 rfl rfl rfl rfl rfl ?_
  refine zGo_s (pc' := 81) (st' := [.int x1, .ref 1235]) dd266_80 rfl ?_
  obtain ⟨hi, h⟩ := ochk h
  refine mIA dd266_81 rfl rfl hi ?_
  refine zGo_s (pc' := 83) (st' := [.int (1 : Int32), .int (u3.1 1235 (nx x1))]) dd266_82 rfl ?_
  refine zGo_s (pc' := 84) (st' := [.int ((u3.1 1235 (nx x1)) - (1 : Int32))]) dd266_83 rfl ?_
  obtain ⟨v4, e_v4, h⟩ := olet h
  refine zGo_is1 e_v4 dd266_84 (x' := (86, [(4, .int v4), (0, .ref 1132), (1, .int x1), (3, .int x3)], [], _, _, _)) rfl ?_
  exact zGo_lv (lv := [(0, .ref 1132), (1, .int x1), (3, .int x3), (4, .int v4)]) ⟨by simp, by simp, by simp⟩ (f266_86_ok hd _ _ _ _ _ _ h)
def f266 (n : Nat) (x1 : Int32) (x2 : Int32) (s : zσ) : Option zσ :=
    zlet ((s.1 1132 69)) fun v1 =>
    zlet (sI s 1132 69 (0 : Int32)) fun u2 =>
    if (u2.1 1132 24) < (100 : Int32) then
    if zin? (u2.1 1132 24) 100 = true then
    zlet (sI u2 1222 (nx (u2.1 1132 24)) x1) fun u3 =>
    if zin? (u3.1 1132 24) 100 = true then
    zlet (sI u3 1223 (nx (u3.1 1132 24)) v1) fun u4 =>
    if zin? (u4.1 1132 24) 100 = true then
    zlet (sI u4 1224 (nx (u4.1 1132 24)) x2) fun u5 =>
    f266_49 n x1 v1 u5
    else none
    else none
    else none
    else f266_49 n x1 v1 u2
set_option maxRecDepth 20000 in
theorem f266_ok {n d : Nat} {x1 : Int32} {x2 : Int32} {s : zσ} {s2 : zσ} (hd : 25 ≤ d) (h : f266 n x1 x2 s = some s2) {w : zσ} {fz : Bool} {L : Nat} {xs : Nat → Int32} : zGo (zX fz L xs) d q_266 (0, [(0, .ref 1132), (1, .int x1), (2, .int x2)], [], zmk w s, 0, 0) (none, zmk w s2, 0, 0) := by
  obtain ⟨d, rfl⟩ : ∃ d0, d = d0 + 1 := ⟨d - 1, by omega⟩
  unfold f266 at h
  refine zGo_s (pc' := 1) (st' := [.ref 1132]) dd266_0 rfl ?_
  refine mGI dd266_1 rfl rfl rfl rfl ?_
  obtain ⟨v1, e_v1, h⟩ := olet h
  refine zGo_is1 e_v1 dd266_4 (x' := (5, [(3, .int v1), (0, .ref 1132), (1, .int x1), (2, .int x2)], [], _, _, _)) rfl ?_
  refine zGo_s (pc' := 6) (st' := [.ref 1132]) dd266_5 rfl ?_
  refine zGo_s (pc' := 7) (st' := [.int (0 : Int32), .ref 1132]) dd266_6 rfl ?_
  obtain ⟨u2, e_u2, h⟩ := olet h
  refine mPI dd266_7 rfl rfl rfl rfl rfl rfl e_u2 ?_
  refine zGo_s (pc' := 11) (st' := [.ref 1132]) dd266_10 rfl ?_
  refine mGI dd266_11 rfl rfl rfl rfl ?_
  refine zGo_s (pc' := 16) (st' := [.int (100 : Int32), .int (u2.1 1132 24)]) dd266_14 rfl ?_
  rcases oite h with ⟨hc, h⟩ | ⟨hc, h⟩
  · refine zIF dd266_16 (kGeF hc) ?_
    refine zGo_s (pc' := 20) (st' := [.ref 1132]) dd266_19 rfl ?_
    refine mGF (e := 1222) dd266_20 rfl rfl rfl rfl rfl ?_
    refine zGo_s (pc' := 24) (st' := [.ref 1132, .ref 1222]) dd266_23 rfl ?_
    refine mGI dd266_24 rfl rfl rfl rfl ?_
    refine zGo_s (pc' := 28) (st' := [.int x1, .int (u2.1 1132 24), .ref 1222]) dd266_27 rfl ?_
    obtain ⟨hi, h⟩ := ochk h
    obtain ⟨u3, e_u3, h⟩ := olet h
    refine mIS dd266_28 rfl rfl hi e_u3 ?_
    refine zGo_s (pc' := 30) (st' := [.ref 1132]) dd266_29 rfl ?_
    refine mGF (e := 1223) dd266_30 rfl rfl rfl rfl rfl ?_
    refine zGo_s (pc' := 34) (st' := [.ref 1132, .ref 1223]) dd266_33 rfl ?_
    refine mGI dd266_34 rfl rfl rfl rfl ?_
    refine zGo_s (pc' := 38) (st' := [.int v1, .int (u3.1 1132 24), .ref 1223]) dd266_37 rfl ?_
    obtain ⟨hi, h⟩ := ochk h
    obtain ⟨u4, e_u4, h⟩ := olet h
    refine mIS dd266_38 rfl rfl hi e_u4 ?_
    refine zGo_s (pc' := 40) (st' := [.ref 1132]) dd266_39 rfl ?_
    refine mGF (e := 1224) dd266_40 rfl rfl rfl rfl rfl ?_
    refine zGo_s (pc' := 44) (st' := [.ref 1132, .ref 1224]) dd266_43 rfl ?_
    refine mGI dd266_44 rfl rfl rfl rfl ?_
    refine zGo_s (pc' := 48) (st' := [.int x2, .int (u4.1 1132 24), .ref 1224]) dd266_47 rfl ?_
    obtain ⟨hi, h⟩ := ochk h
    obtain ⟨u5, e_u5, h⟩ := olet h
    refine mIS dd266_48 rfl rfl hi e_u5 ?_
    exact zGo_lv (lv := [(0, .ref 1132), (1, .int x1), (3, .int v1)]) ⟨by simp, by simp, by simp⟩ (f266_49_ok hd h)
  · refine zIT dd266_16 rfl (kGeT hc) ?_
    exact zGo_lv (lv := [(0, .ref 1132), (1, .int x1), (3, .int v1)]) ⟨by simp, by simp, by simp⟩ (f266_49_ok hd h)
/-! PHModel.step(I)V -/
theorem dd241_0 : decode cX13_step 0 = .ok (.aload_n 0, 1) := by decide +kernel
theorem dd241_1 : decode cX13_step 1 = .ok (.getfield 127, 3) := by decide +kernel
theorem dd241_4 : decode cX13_step 4 = .ok (.aload_n 0, 1) := by decide +kernel
theorem dd241_5 : decode cX13_step 5 = .ok (.iload_n 1, 1) := by decide +kernel
theorem dd241_6 : decode cX13_step 6 = .ok (.invokevirtual 591, 3) := by decide +kernel
theorem dd241_9 : decode cX13_step 9 = .ok (.iaload, 1) := by decide +kernel
theorem dd241_10 : decode cX13_step 10 = .ok (.istore_n 2, 1) := by decide +kernel
theorem dd241_11 : decode cX13_step 11 = .ok (.aload_n 0, 1) := by decide +kernel
theorem dd241_12 : decode cX13_step 12 = .ok (.dup, 1) := by decide +kernel
theorem dd241_13 : decode cX13_step 13 = .ok (.getfield 565, 3) := by decide +kernel
theorem dd241_16 : decode cX13_step 16 = .ok (.iconst 1, 1) := by decide +kernel
theorem dd241_17 : decode cX13_step 17 = .ok (.iadd, 1) := by decide +kernel
theorem dd241_18 : decode cX13_step 18 = .ok (.putfield 565, 3) := by decide +kernel
theorem dd241_21 : decode cX13_step 21 = .ok (.aload_n 0, 1) := by decide +kernel
theorem dd241_22 : decode cX13_step 22 = .ok (.iconst 0, 1) := by decide +kernel
theorem dd241_23 : decode cX13_step 23 = .ok (.putfield 623, 3) := by decide +kernel
theorem dd241_26 : decode cX13_step 26 = .ok (.aload_n 0, 1) := by decide +kernel
theorem dd241_27 : decode cX13_step 27 = .ok (.iload_n 1, 1) := by decide +kernel
theorem dd241_28 : decode cX13_step 28 = .ok (.iload_n 2, 1) := by decide +kernel
theorem dd241_29 : decode cX13_step 29 = .ok (.invokevirtual 653, 3) := by decide +kernel
theorem dd241_32 : decode cX13_step 32 = .ok (.aload_n 0, 1) := by decide +kernel
theorem dd241_33 : decode cX13_step 33 = .ok (.getfield 623, 3) := by decide +kernel
theorem dd241_36 : decode cX13_step 36 = .ok (.ifCond .eq 9, 3) := by decide +kernel
theorem dd241_39 : decode cX13_step 39 = .ok (.aload_n 0, 1) := by decide +kernel
theorem dd241_40 : decode cX13_step 40 = .ok (.iload_n 1, 1) := by decide +kernel
theorem dd241_41 : decode cX13_step 41 = .ok (.iload_n 2, 1) := by decide +kernel
theorem dd241_42 : decode cX13_step 42 = .ok (.invokevirtual 656, 3) := by decide +kernel
theorem dd241_45 : decode cX13_step 45 = .ok (.aload_n 0, 1) := by decide +kernel
theorem dd241_46 : decode cX13_step 46 = .ok (.invokevirtual 659, 3) := by decide +kernel
theorem dd241_49 : decode cX13_step 49 = .ok (.return_, 1) := by decide +kernel
def f241_45 (n : Nat) (s : zσ) : Option zσ :=
    yb0 (f226 n s) fun u1 =>
    some u1
set_option maxRecDepth 20000 in
theorem f241_45_ok {n d : Nat} {s : zσ} {s2 : zσ} (hd : 32 ≤ d) (h : f241_45 n s = some s2) {w : zσ} {fz : Bool} {L : Nat} {xs : Nat → Int32} : zGo (zX fz L xs) d q_241 (45, [(0, .ref 1132)], [], zmk w s, 0, 0) (none, zmk w s2, 0, 0) := by
  obtain ⟨d, rfl⟩ : ∃ d0, d = d0 + 1 := ⟨d - 1, by omega⟩
  unfold f241_45 at h
  refine zGo_s (pc' := 46) (st' := [.ref 1132]) dd241_45 rfl ?_
  obtain ⟨u1, hq, h⟩ := obn0 h
  refine zCV0 (As := []) (rest := []) (b := 1132) (q' := q_226) dd241_46 rfl rfl (rcv_m rfl rfl (by decide)) rfl rfl rfl (f226_ok (d := d) (by omega)  hq) ?_
  obtain rfl := ore0 h
  exact zGo_ret dd241_49 rfl rfl
def f241 (n : Nat) (x1 : Int32) (s : zσ) : Option zσ :=
    yb1 (f214 n x1 s) fun v2 u1 =>
    if zin? v2 1120 = true then
    zlet ((u1.1 1237 (nx v2))) fun v3 =>
    zlet (sI u1 1132 22 ((u1.1 1132 22) + (1 : Int32))) fun u4 =>
    zlet (sI u4 1132 69 (0 : Int32)) fun u5 =>
    yb0 (f242 n x1 v3 u5) fun u6 =>
    if (u6.1 1132 69) = (0 : Int32) then
    f241_45 n u6
    else yb0 (f266 n x1 v3 u6) fun u7 =>
    f241_45 n u7
    else none
set_option maxRecDepth 20000 in
theorem f241_ok {n d : Nat} {x1 : Int32} {s : zσ} {s2 : zσ} (hd : 32 ≤ d) (h : f241 n x1 s = some s2) {w : zσ} {fz : Bool} {L : Nat} {xs : Nat → Int32} : zGo (zX fz L xs) d q_241 (0, [(0, .ref 1132), (1, .int x1)], [], zmk w s, 0, 0) (none, zmk w s2, 0, 0) := by
  obtain ⟨d, rfl⟩ : ∃ d0, d = d0 + 1 := ⟨d - 1, by omega⟩
  unfold f241 at h
  refine zGo_s (pc' := 1) (st' := [.ref 1132]) dd241_0 rfl ?_
  refine mGF (e := 1237) dd241_1 rfl rfl rfl rfl rfl ?_
  refine zGo_s (pc' := 5) (st' := [.ref 1132, .ref 1237]) dd241_4 rfl ?_
  refine zGo_s (pc' := 6) (st' := [.int x1, .ref 1132, .ref 1237]) dd241_5 rfl ?_
  obtain ⟨v2, u1, hq, h⟩ := obnd h
  refine zCV1 (As := [.int x1]) (rest := [.ref 1237]) (b := 1132) (q' := q_214) dd241_6 rfl rfl (rcv_m rfl rfl (by decide)) rfl rfl rfl (f214_ok (d := d) (by omega)  hq) ?_
  obtain ⟨hi, h⟩ := ochk h
  refine mIA dd241_9 rfl rfl hi ?_
  obtain ⟨v3, e_v3, h⟩ := olet h
  refine zGo_is1 e_v3 dd241_10 (x' := (11, [(2, .int v3), (0, .ref 1132), (1, .int x1)], [], _, _, _)) rfl ?_
  refine zGo_s (pc' := 12) (st' := [.ref 1132]) dd241_11 rfl ?_
  refine zGo_s (pc' := 13) (st' := [.ref 1132, .ref 1132]) dd241_12 rfl ?_
  refine mGI dd241_13 rfl rfl rfl rfl ?_
  refine zGo_s (pc' := 17) (st' := [.int (1 : Int32), .int (u1.1 1132 22), .ref 1132]) dd241_16 rfl ?_
  refine zGo_s (pc' := 18) (st' := [.int ((u1.1 1132 22) + (1 : Int32)), .ref 1132]) dd241_17 rfl ?_
  obtain ⟨u4, e_u4, h⟩ := olet h
  refine mPI dd241_18 rfl rfl rfl rfl rfl rfl e_u4 ?_
  refine zGo_s (pc' := 22) (st' := [.ref 1132]) dd241_21 rfl ?_
  refine zGo_s (pc' := 23) (st' := [.int (0 : Int32), .ref 1132]) dd241_22 rfl ?_
  obtain ⟨u5, e_u5, h⟩ := olet h
  refine mPI dd241_23 rfl rfl rfl rfl rfl rfl e_u5 ?_
  refine zGo_s (pc' := 27) (st' := [.ref 1132]) dd241_26 rfl ?_
  refine zGo_s (pc' := 28) (st' := [.int x1, .ref 1132]) dd241_27 rfl ?_
  refine zGo_s (pc' := 29) (st' := [.int v3, .int x1, .ref 1132]) dd241_28 rfl ?_
  obtain ⟨u6, hq, h⟩ := obn0 h
  refine zCV0 (As := [.int x1, .int v3]) (rest := []) (b := 1132) (q' := q_242) dd241_29 rfl rfl (rcv_m rfl rfl (by decide)) rfl rfl rfl (f242_ok (d := d) (by omega)  hq) ?_
  refine zGo_s (pc' := 33) (st' := [.ref 1132]) dd241_32 rfl ?_
  refine mGI dd241_33 rfl rfl rfl rfl ?_
  rcases oite h with ⟨hc, h⟩ | ⟨hc, h⟩
  · refine zUT dd241_36 rfl (kEqT hc) ?_
    exact zGo_lv (lv := [(0, .ref 1132)]) ⟨by simp, by simp, by simp⟩ (f241_45_ok hd h)
  · refine zUF dd241_36 (kEqF hc) ?_
    refine zGo_s (pc' := 40) (st' := [.ref 1132]) dd241_39 rfl ?_
    refine zGo_s (pc' := 41) (st' := [.int x1, .ref 1132]) dd241_40 rfl ?_
    refine zGo_s (pc' := 42) (st' := [.int v3, .int x1, .ref 1132]) dd241_41 rfl ?_
    obtain ⟨u7, hq, h⟩ := obn0 h
    refine zCV0 (As := [.int x1, .int v3]) (rest := []) (b := 1132) (q' := q_266) dd241_42 rfl rfl (rcv_m rfl rfl (by decide)) rfl rfl rfl (f266_ok (d := d) (by omega)  hq) ?_
    exact zGo_lv (lv := [(0, .ref 1132)]) ⟨by simp, by simp, by simp⟩ (f241_45_ok hd h)
/-! PHModel.run(I)I -/
theorem dd221_0 : decode cX13_run 0 = .ok (.iload_n 1, 1) := by decide +kernel
theorem dd221_1 : decode cX13_run 1 = .ok (.iconst 1, 1) := by decide +kernel
theorem dd221_2 : decode cX13_run 2 = .ok (.if_icmp .lt 10, 3) := by decide +kernel
theorem dd221_5 : decode cX13_run 5 = .ok (.iload_n 1, 1) := by decide +kernel
theorem dd221_6 : decode cX13_run 6 = .ok (.sipush 500, 3) := by decide +kernel
theorem dd221_9 : decode cX13_run 9 = .ok (.if_icmp .le 6, 3) := by decide +kernel
theorem dd221_12 : decode cX13_run 12 = .ok (.bipush (-2), 2) := by decide +kernel
theorem dd221_14 : decode cX13_run 14 = .ok (.ireturn, 1) := by decide +kernel
theorem dd221_15 : decode cX13_run 15 = .ok (.aload_n 0, 1) := by decide +kernel
theorem dd221_16 : decode cX13_run 16 = .ok (.getfield 557, 3) := by decide +kernel
theorem dd221_19 : decode cX13_run 19 = .ok (.ifCond .ne 6, 3) := by decide +kernel
theorem dd221_22 : decode cX13_run 22 = .ok (.bipush (-3), 2) := by decide +kernel
theorem dd221_24 : decode cX13_run 24 = .ok (.ireturn, 1) := by decide +kernel
theorem dd221_25 : decode cX13_run 25 = .ok (.iconst 0, 1) := by decide +kernel
theorem dd221_26 : decode cX13_run 26 = .ok (.istore_n 2, 1) := by decide +kernel
theorem dd221_27 : decode cX13_run 27 = .ok (.iload_n 2, 1) := by decide +kernel
theorem dd221_28 : decode cX13_run 28 = .ok (.iload_n 1, 1) := by decide +kernel
theorem dd221_29 : decode cX13_run 29 = .ok (.if_icmp .ge 140, 3) := by decide +kernel
theorem dd221_32 : decode cX13_run 32 = .ok (.aload_n 0, 1) := by decide +kernel
theorem dd221_33 : decode cX13_run 33 = .ok (.getfield 650, 3) := by decide +kernel
theorem dd221_36 : decode cX13_run 36 = .ok (.sipush 4000, 3) := by decide +kernel
theorem dd221_39 : decode cX13_run 39 = .ok (.if_icmp .lt 6, 3) := by decide +kernel
theorem dd221_42 : decode cX13_run 42 = .ok (.bipush (-4), 2) := by decide +kernel
theorem dd221_44 : decode cX13_run 44 = .ok (.ireturn, 1) := by decide +kernel
theorem dd221_45 : decode cX13_run 45 = .ok (.aload_n 0, 1) := by decide +kernel
theorem dd221_46 : decode cX13_run 46 = .ok (.invokevirtual 761, 3) := by decide +kernel
theorem dd221_49 : decode cX13_run 49 = .ok (.aload_n 0, 1) := by decide +kernel
theorem dd221_50 : decode cX13_run 50 = .ok (.aload_n 0, 1) := by decide +kernel
theorem dd221_51 : decode cX13_run 51 = .ok (.getfield 161, 3) := by decide +kernel
theorem dd221_54 : decode cX13_run 54 = .ok (.invokevirtual 764, 3) := by decide +kernel
theorem dd221_57 : decode cX13_run 57 = .ok (.istore_n 3, 1) := by decide +kernel
theorem dd221_58 : decode cX13_run 58 = .ok (.iload_n 3, 1) := by decide +kernel
theorem dd221_59 : decode cX13_run 59 = .ok (.ifCond .ne 42, 3) := by decide +kernel
theorem dd221_62 : decode cX13_run 62 = .ok (.aload_n 0, 1) := by decide +kernel
theorem dd221_63 : decode cX13_run 63 = .ok (.invokevirtual 737, 3) := by decide +kernel
theorem dd221_66 : decode cX13_run 66 = .ok (.istore 4, 2) := by decide +kernel
theorem dd221_68 : decode cX13_run 68 = .ok (.iload 4, 2) := by decide +kernel
theorem dd221_70 : decode cX13_run 70 = .ok (.iconst (-1), 1) := by decide +kernel
theorem dd221_71 : decode cX13_run 71 = .ok (.if_icmp .ne 16, 3) := by decide +kernel
theorem dd221_74 : decode cX13_run 74 = .ok (.aload_n 0, 1) := by decide +kernel
theorem dd221_75 : decode cX13_run 75 = .ok (.invokevirtual 768, 3) := by decide +kernel
theorem dd221_78 : decode cX13_run 78 = .ok (.ifCond .eq 7, 3) := by decide +kernel
theorem dd221_81 : decode cX13_run 81 = .ok (.iconst 2, 1) := by decide +kernel
theorem dd221_82 : decode cX13_run 82 = .ok (.goto 4, 3) := by decide +kernel
theorem dd221_85 : decode cX13_run 85 = .ok (.iconst 0, 1) := by decide +kernel
theorem dd221_86 : decode cX13_run 86 = .ok (.ireturn, 1) := by decide +kernel
theorem dd221_87 : decode cX13_run 87 = .ok (.aload_n 0, 1) := by decide +kernel
theorem dd221_88 : decode cX13_run 88 = .ok (.aload_n 0, 1) := by decide +kernel
theorem dd221_89 : decode cX13_run 89 = .ok (.getfield 139, 3) := by decide +kernel
theorem dd221_92 : decode cX13_run 92 = .ok (.iload 4, 2) := by decide +kernel
theorem dd221_94 : decode cX13_run 94 = .ok (.iaload, 1) := by decide +kernel
theorem dd221_95 : decode cX13_run 95 = .ok (.putfield 560, 3) := by decide +kernel
theorem dd221_98 : decode cX13_run 98 = .ok (.goto 55, 3) := by decide +kernel
theorem dd221_101 : decode cX13_run 101 = .ok (.iconst 0, 1) := by decide +kernel
theorem dd221_102 : decode cX13_run 102 = .ok (.istore 4, 2) := by decide +kernel
theorem dd221_104 : decode cX13_run 104 = .ok (.iload 4, 2) := by decide +kernel
theorem dd221_106 : decode cX13_run 106 = .ok (.iload_n 3, 1) := by decide +kernel
theorem dd221_107 : decode cX13_run 107 = .ok (.if_icmp .ge 36, 3) := by decide +kernel
theorem dd221_110 : decode cX13_run 110 = .ok (.aload_n 0, 1) := by decide +kernel
theorem dd221_111 : decode cX13_run 111 = .ok (.getfield 91, 3) := by decide +kernel
theorem dd221_114 : decode cX13_run 114 = .ok (.aload_n 0, 1) := by decide +kernel
theorem dd221_115 : decode cX13_run 115 = .ok (.getfield 161, 3) := by decide +kernel
theorem dd221_118 : decode cX13_run 118 = .ok (.iload 4, 2) := by decide +kernel
theorem dd221_120 : decode cX13_run 120 = .ok (.iaload, 1) := by decide +kernel
theorem dd221_121 : decode cX13_run 121 = .ok (.iaload, 1) := by decide +kernel
theorem dd221_122 : decode cX13_run 122 = .ok (.iconst 1, 1) := by decide +kernel
theorem dd221_123 : decode cX13_run 123 = .ok (.if_icmp .ne 14, 3) := by decide +kernel
theorem dd221_126 : decode cX13_run 126 = .ok (.aload_n 0, 1) := by decide +kernel
theorem dd221_127 : decode cX13_run 127 = .ok (.aload_n 0, 1) := by decide +kernel
theorem dd221_128 : decode cX13_run 128 = .ok (.getfield 161, 3) := by decide +kernel
theorem dd221_131 : decode cX13_run 131 = .ok (.iload 4, 2) := by decide +kernel
theorem dd221_133 : decode cX13_run 133 = .ok (.iaload, 1) := by decide +kernel
theorem dd221_134 : decode cX13_run 134 = .ok (.invokevirtual 771, 3) := by decide +kernel
theorem dd221_137 : decode cX13_run 137 = .ok (.iinc 4 1, 3) := by decide +kernel
theorem dd221_140 : decode cX13_run 140 = .ok (.goto (-36), 3) := by decide +kernel
theorem dd221_143 : decode cX13_run 143 = .ok (.aload_n 0, 1) := by decide +kernel
theorem dd221_144 : decode cX13_run 144 = .ok (.dup, 1) := by decide +kernel
theorem dd221_145 : decode cX13_run 145 = .ok (.getfield 560, 3) := by decide +kernel
theorem dd221_148 : decode cX13_run 148 = .ok (.iconst 1, 1) := by decide +kernel
theorem dd221_149 : decode cX13_run 149 = .ok (.iadd, 1) := by decide +kernel
theorem dd221_150 : decode cX13_run 150 = .ok (.putfield 560, 3) := by decide +kernel
theorem dd221_153 : decode cX13_run 153 = .ok (.aload_n 0, 1) := by decide +kernel
theorem dd221_154 : decode cX13_run 154 = .ok (.dup, 1) := by decide +kernel
theorem dd221_155 : decode cX13_run 155 = .ok (.getfield 562, 3) := by decide +kernel
theorem dd221_158 : decode cX13_run 158 = .ok (.iconst 1, 1) := by decide +kernel
theorem dd221_159 : decode cX13_run 159 = .ok (.iadd, 1) := by decide +kernel
theorem dd221_160 : decode cX13_run 160 = .ok (.putfield 562, 3) := by decide +kernel
theorem dd221_163 : decode cX13_run 163 = .ok (.iinc 2 1, 3) := by decide +kernel
theorem dd221_166 : decode cX13_run 166 = .ok (.goto (-139), 3) := by decide +kernel
theorem dd221_169 : decode cX13_run 169 = .ok (.iconst 1, 1) := by decide +kernel
theorem dd221_170 : decode cX13_run 170 = .ok (.ireturn, 1) := by decide +kernel
def f221_153 (n : Nat) (r27 : Int32 → Int32 → zσ → Option (Int32 × zσ)) (x1 : Int32) (x2 : Int32) (s : zσ) : Option (Int32 × zσ) :=
    zlet (sI s 1132 21 ((s.1 1132 21) + (1 : Int32))) fun u1 =>
    r27 x1 (x2 + (1 : Int32)) u1
set_option maxRecDepth 20000 in
theorem f221_153_ok {n d : Nat} {r27 : Int32 → Int32 → zσ → Option (Int32 × zσ)} {x1 : Int32} {x2 : Int32} {s : zσ} {v : Int32} {s2 : zσ} (hd : 33 ≤ d) (hr27 : ∀ (x1 : Int32) (x2 : Int32) (s : zσ) (v : Int32) (s2 : zσ), r27 x1 x2 s = some (v, s2) → ∀ {w : zσ} {fz : Bool} {L : Nat} {xs : Nat → Int32}, zGo (zX fz L xs) d q_221 (27, [(0, .ref 1132), (1, .int x1), (2, .int x2)], [], zmk w s, 0, 0) (some (.int v), zmk w s2, 0, 0)) (h : f221_153 n r27 x1 x2 s = some (v, s2)) {w : zσ} {fz : Bool} {L : Nat} {xs : Nat → Int32} : zGo (zX fz L xs) d q_221 (153, [(0, .ref 1132), (1, .int x1), (2, .int x2)], [], zmk w s, 0, 0) (some (.int v), zmk w s2, 0, 0) := by
  obtain ⟨d, rfl⟩ : ∃ d0, d = d0 + 1 := ⟨d - 1, by omega⟩
  unfold f221_153 at h
  refine zGo_s (pc' := 154) (st' := [.ref 1132]) dd221_153 rfl ?_
  refine zGo_s (pc' := 155) (st' := [.ref 1132, .ref 1132]) dd221_154 rfl ?_
  refine mGI dd221_155 rfl rfl rfl rfl ?_
  refine zGo_s (pc' := 159) (st' := [.int (1 : Int32), .int (s.1 1132 21), .ref 1132]) dd221_158 rfl ?_
  refine zGo_s (pc' := 160) (st' := [.int ((s.1 1132 21) + (1 : Int32)), .ref 1132]) dd221_159 rfl ?_
  obtain ⟨u1, e_u1, h⟩ := olet h
  refine mPI dd221_160 rfl rfl rfl rfl rfl rfl e_u1 ?_
  refine zGo_s (pc' := 166) (st' := []) (lv' := [(2, .int (x2 + (1 : Int32))), (0, .ref 1132), (1, .int x1)]) dd221_163 rfl ?_
  refine zGo_s (pc' := 27) (st' := []) dd221_166 rfl ?_
  exact zGo_lv (lv := [(0, .ref 1132), (1, .int x1), (2, .int (x2 + (1 : Int32)))]) ⟨by simp, by simp, by simp⟩ (hr27 _ _ _ _ _ h)
def f221_137 (n : Nat) (r27 : Int32 → Int32 → zσ → Option (Int32 × zσ)) (r104 : Int32 → Int32 → Int32 → Int32 → zσ → Option (Int32 × zσ)) (x1 : Int32) (x2 : Int32) (x3 : Int32) (x4 : Int32) (s : zσ) : Option (Int32 × zσ) :=
    r104 x1 x2 x3 (x4 + (1 : Int32)) s
set_option maxRecDepth 20000 in
theorem f221_137_ok {n d : Nat} {r27 : Int32 → Int32 → zσ → Option (Int32 × zσ)} {r104 : Int32 → Int32 → Int32 → Int32 → zσ → Option (Int32 × zσ)} {x1 : Int32} {x2 : Int32} {x3 : Int32} {x4 : Int32} {s : zσ} {v : Int32} {s2 : zσ} (hd : 33 ≤ d) (hr27 : ∀ (x1 : Int32) (x2 : Int32) (s : zσ) (v : Int32) (s2 : zσ), r27 x1 x2 s = some (v, s2) → ∀ {w : zσ} {fz : Bool} {L : Nat} {xs : Nat → Int32}, zGo (zX fz L xs) d q_221 (27, [(0, .ref 1132), (1, .int x1), (2, .int x2)], [], zmk w s, 0, 0) (some (.int v), zmk w s2, 0, 0)) (hr104 : ∀ (x1 : Int32) (x2 : Int32) (x3 : Int32) (x4 : Int32) (s : zσ) (v : Int32) (s2 : zσ), r104 x1 x2 x3 x4 s = some (v, s2) → ∀ {w : zσ} {fz : Bool} {L : Nat} {xs : Nat → Int32}, zGo (zX fz L xs) d q_221 (104, [(0, .ref 1132), (1, .int x1), (2, .int x2), (3, .int x3), (4, .int x4)], [], zmk w s, 0, 0) (some (.int v), zmk w s2, 0, 0)) (h : f221_137 n r27 r104 x1 x2 x3 x4 s = some (v, s2)) {w : zσ} {fz : Bool} {L : Nat} {xs : Nat → Int32} : zGo (zX fz L xs) d q_221 (137, [(0, .ref 1132), (1, .int x1), (2, .int x2), (3, .int x3), (4, .int x4)], [], zmk w s, 0, 0) (some (.int v), zmk w s2, 0, 0) := by
  obtain ⟨d, rfl⟩ : ∃ d0, d = d0 + 1 := ⟨d - 1, by omega⟩
  unfold f221_137 at h
  refine zGo_s (pc' := 140) (st' := []) (lv' := [(4, .int (x4 + (1 : Int32))), (0, .ref 1132), (1, .int x1), (2, .int x2), (3, .int x3)]) dd221_137 rfl ?_
  refine zGo_s (pc' := 104) (st' := []) dd221_140 rfl ?_
  exact zGo_lv (lv := [(0, .ref 1132), (1, .int x1), (2, .int x2), (3, .int x3), (4, .int (x4 + (1 : Int32)))]) ⟨by simp, by simp, by simp⟩ (hr104 _ _ _ _ _ _ _ h)
def f221_104 (n : Nat) (r27 : Int32 → Int32 → zσ → Option (Int32 × zσ)) : Nat → Int32 → Int32 → Int32 → Int32 → zσ → Option (Int32 × zσ)
  | 0, _, _, _, _, _ => none
  | j + 1, x1, x2, x3, x4, s =>
    if x4 < x3 then
    if zin? x4 3 = true then
    if zin? (s.1 1248 (nx x4)) 8 = true then
    if (s.1 1225 (nx (s.1 1248 (nx x4)))) = (1 : Int32) then
    if zin? x4 3 = true then
    yb0 (f241 n (s.1 1248 (nx x4)) s) fun u2 =>
    f221_137 n r27 (f221_104 n r27 j) x1 x2 x3 x4 u2
    else none
    else f221_137 n r27 (f221_104 n r27 j) x1 x2 x3 x4 s
    else none
    else none
    else zlet (sI s 1132 20 ((s.1 1132 20) + (1 : Int32))) fun u1 =>
    f221_153 n r27 x1 x2 u1
set_option maxRecDepth 20000 in
theorem f221_104_ok {n d : Nat} {r27 : Int32 → Int32 → zσ → Option (Int32 × zσ)} (hd : 33 ≤ d) (hr27 : ∀ (x1 : Int32) (x2 : Int32) (s : zσ) (v : Int32) (s2 : zσ), r27 x1 x2 s = some (v, s2) → ∀ {w : zσ} {fz : Bool} {L : Nat} {xs : Nat → Int32}, zGo (zX fz L xs) d q_221 (27, [(0, .ref 1132), (1, .int x1), (2, .int x2)], [], zmk w s, 0, 0) (some (.int v), zmk w s2, 0, 0)) : ∀ (j : Nat) (x1 : Int32) (x2 : Int32) (x3 : Int32) (x4 : Int32) (s : zσ) (v : Int32) (s2 : zσ), f221_104 n r27 j x1 x2 x3 x4 s = some (v, s2) → ∀ {w : zσ} {fz : Bool} {L : Nat} {xs : Nat → Int32}, zGo (zX fz L xs) d q_221 (104, [(0, .ref 1132), (1, .int x1), (2, .int x2), (3, .int x3), (4, .int x4)], [], zmk w s, 0, 0) (some (.int v), zmk w s2, 0, 0) := by
  obtain ⟨d, rfl⟩ : ∃ d0, d = d0 + 1 := ⟨d - 1, by omega⟩
  intro j
  induction j with
  | zero => intro x1 x2 x3 x4 s v s2 h; cases h
  | succ j ih =>
    intro x1 x2 x3 x4 s v s2 h w fz L xs
    rw [f221_104] at h
    refine zGo_s (pc' := 106) (st' := [.int x4]) dd221_104 rfl ?_
    refine zGo_s (pc' := 107) (st' := [.int x3, .int x4]) dd221_106 rfl ?_
    rcases oite h with ⟨hc, h⟩ | ⟨hc, h⟩
    · refine zIF dd221_107 (kGeF hc) ?_
      refine zGo_s (pc' := 111) (st' := [.ref 1132]) dd221_110 rfl ?_
      refine mGF (e := 1225) dd221_111 rfl rfl rfl rfl rfl ?_
      refine zGo_s (pc' := 115) (st' := [.ref 1132, .ref 1225]) dd221_114 rfl ?_
      refine mGF (e := 1248) dd221_115 rfl rfl rfl rfl rfl ?_
      refine zGo_s (pc' := 120) (st' := [.int x4, .ref 1248, .ref 1225]) dd221_118 rfl ?_
      obtain ⟨hi, h⟩ := ochk h
      refine mIA dd221_120 rfl rfl hi ?_
      obtain ⟨hi, h⟩ := ochk h
      refine mIA dd221_121 rfl rfl hi ?_
      refine zGo_s (pc' := 123) (st' := [.int (1 : Int32), .int (s.1 1225 (nx (s.1 1248 (nx x4))))]) dd221_122 rfl ?_
      rcases oite h with ⟨hc, h⟩ | ⟨hc, h⟩
      · refine zIF dd221_123 (kNeF hc) ?_
        refine zGo_s (pc' := 127) (st' := [.ref 1132]) dd221_126 rfl ?_
        refine zGo_s (pc' := 128) (st' := [.ref 1132, .ref 1132]) dd221_127 rfl ?_
        refine mGF (e := 1248) dd221_128 rfl rfl rfl rfl rfl ?_
        refine zGo_s (pc' := 133) (st' := [.int x4, .ref 1248, .ref 1132]) dd221_131 rfl ?_
        obtain ⟨hi, h⟩ := ochk h
        refine mIA dd221_133 rfl rfl hi ?_
        obtain ⟨u2, hq, h⟩ := obn0 h
        refine zCV0 (As := [.int (s.1 1248 (nx x4))]) (rest := []) (b := 1132) (q' := q_241) dd221_134 rfl rfl (rcv_m rfl rfl (by decide)) rfl rfl rfl (f241_ok (d := d) (by omega)  hq) ?_
        exact f221_137_ok hd hr27 ih h
      · refine zIT dd221_123 rfl (kNeT hc) ?_
        exact f221_137_ok hd hr27 ih h
    · refine zIT dd221_107 rfl (kGeT hc) ?_
      refine zGo_s (pc' := 144) (st' := [.ref 1132]) dd221_143 rfl ?_
      refine zGo_s (pc' := 145) (st' := [.ref 1132, .ref 1132]) dd221_144 rfl ?_
      refine mGI dd221_145 rfl rfl rfl rfl ?_
      refine zGo_s (pc' := 149) (st' := [.int (1 : Int32), .int (s.1 1132 20), .ref 1132]) dd221_148 rfl ?_
      refine zGo_s (pc' := 150) (st' := [.int ((s.1 1132 20) + (1 : Int32)), .ref 1132]) dd221_149 rfl ?_
      obtain ⟨u1, e_u1, h⟩ := olet h
      refine mPI dd221_150 rfl rfl rfl rfl rfl rfl e_u1 ?_
      exact zGo_lv (lv := [(0, .ref 1132), (1, .int x1), (2, .int x2)]) ⟨by simp, by simp, by simp⟩ (f221_153_ok hd hr27 h)
def f221_27 (n : Nat) : Nat → Int32 → Int32 → zσ → Option (Int32 × zσ)
  | 0, _, _, _ => none
  | j + 1, x1, x2, s =>
    if x2 < x1 then
    if (s.1 1132 29) < (4000 : Int32) then
    yb0 (f222 n s) fun u1 =>
    yb1 (f238 n u1) fun v3 u2 =>
    if v3 = (0 : Int32) then
    yb1 (f223 n u2) fun v5 u4 =>
    if v5 = (-1 : Int32) then
    yb1 (f240 n u4) fun v8 u7 =>
    if v8 = (0 : Int32) then
    some ((0 : Int32), u7)
    else some ((2 : Int32), u7)
    else if zin? v5 16 = true then
    zlet (sI u4 1132 20 (u4.1 1241 (nx v5))) fun u6 =>
    f221_153 n (f221_27 n j) x1 x2 u6
    else none
    else f221_104 n (f221_27 n j) n x1 x2 v3 (0 : Int32) u2
    else some ((-4 : Int32), s)
    else some ((1 : Int32), s)
set_option maxRecDepth 20000 in
theorem f221_27_ok {n d : Nat} (hd : 33 ≤ d) : ∀ (j : Nat) (x1 : Int32) (x2 : Int32) (s : zσ) (v : Int32) (s2 : zσ), f221_27 n j x1 x2 s = some (v, s2) → ∀ {w : zσ} {fz : Bool} {L : Nat} {xs : Nat → Int32}, zGo (zX fz L xs) d q_221 (27, [(0, .ref 1132), (1, .int x1), (2, .int x2)], [], zmk w s, 0, 0) (some (.int v), zmk w s2, 0, 0) := by
  obtain ⟨d, rfl⟩ : ∃ d0, d = d0 + 1 := ⟨d - 1, by omega⟩
  intro j
  induction j with
  | zero => intro x1 x2 s v s2 h; cases h
  | succ j ih =>
    intro x1 x2 s v s2 h w fz L xs
    rw [f221_27] at h
    refine zGo_s (pc' := 28) (st' := [.int x2]) dd221_27 rfl ?_
    refine zGo_s (pc' := 29) (st' := [.int x1, .int x2]) dd221_28 rfl ?_
    rcases oite h with ⟨hc, h⟩ | ⟨hc, h⟩
    · refine zIF dd221_29 (kGeF hc) ?_
      refine zGo_s (pc' := 33) (st' := [.ref 1132]) dd221_32 rfl ?_
      refine mGI dd221_33 rfl rfl rfl rfl ?_
      refine zGo_s (pc' := 39) (st' := [.int (4000 : Int32), .int (s.1 1132 29)]) dd221_36 rfl ?_
      rcases oite h with ⟨hc, h⟩ | ⟨hc, h⟩
      · refine zIT dd221_39 rfl (kLtT hc) ?_
        refine zGo_s (pc' := 46) (st' := [.ref 1132]) dd221_45 rfl ?_
        obtain ⟨u1, hq, h⟩ := obn0 h
        refine zCV0 (As := []) (rest := []) (b := 1132) (q' := q_222) dd221_46 rfl rfl (rcv_m rfl rfl (by decide)) rfl rfl rfl (f222_ok (d := d) (by omega)  hq) ?_
        refine zGo_s (pc' := 50) (st' := [.ref 1132]) dd221_49 rfl ?_
        refine zGo_s (pc' := 51) (st' := [.ref 1132, .ref 1132]) dd221_50 rfl ?_
        refine mGF (e := 1248) dd221_51 rfl rfl rfl rfl rfl ?_
        obtain ⟨v3, u2, hq, h⟩ := obnd h
        refine zCV1 (As := [.ref 1248]) (rest := []) (b := 1132) (q' := q_238) dd221_54 rfl rfl (rcv_m rfl rfl (by decide)) rfl rfl rfl (f238_ok (d := d) (by omega)  hq) ?_
        refine zGo_s (pc' := 58) (st' := []) (lv' := [(3, .int v3), (0, .ref 1132), (1, .int x1), (2, .int x2)]) dd221_57 rfl ?_
        refine zGo_s (pc' := 59) (st' := [.int v3]) dd221_58 rfl ?_
        rcases oite h with ⟨hc, h⟩ | ⟨hc, h⟩
        · refine zUF dd221_59 (kNeF hc) ?_
          refine zGo_s (pc' := 63) (st' := [.ref 1132]) dd221_62 rfl ?_
          obtain ⟨v5, u4, hq, h⟩ := obnd h
          refine zCV1 (As := []) (rest := []) (b := 1132) (q' := q_223) dd221_63 rfl rfl (rcv_m rfl rfl (by decide)) rfl rfl rfl (f223_ok (d := d) (by omega)  hq) ?_
          refine zGo_s (pc' := 68) (st' := []) (lv' := [(4, .int v5), (3, .int v3), (0, .ref 1132), (1, .int x1), (2, .int x2)]) dd221_66 rfl ?_
          refine zGo_s (pc' := 70) (st' := [.int v5]) dd221_68 rfl ?_
          refine zGo_s (pc' := 71) (st' := [.int (-1 : Int32), .int v5]) dd221_70 rfl ?_
          rcases oite h with ⟨hc, h⟩ | ⟨hc, h⟩
          · refine zIF dd221_71 (kNeF hc) ?_
            refine zGo_s (pc' := 75) (st' := [.ref 1132]) dd221_74 rfl ?_
            obtain ⟨v8, u7, hq, h⟩ := obnd h
            refine zCV1 (As := []) (rest := []) (b := 1132) (q' := q_240) dd221_75 rfl rfl (rcv_m rfl rfl (by decide)) rfl rfl rfl (f240_ok (d := d) (by omega)  hq) ?_
            rcases oite h with ⟨hc, h⟩ | ⟨hc, h⟩
            · refine zUT dd221_78 rfl (kEqT hc) ?_
              refine zGo_s (pc' := 86) (st' := [.int (0 : Int32)]) dd221_85 rfl ?_
              obtain ⟨rfl, rfl⟩ := oret h
              exact zGo_ret dd221_86 rfl rfl
            · refine zUF dd221_78 (kEqF hc) ?_
              refine zGo_s (pc' := 82) (st' := [.int (2 : Int32)]) dd221_81 rfl ?_
              refine zGo_s (pc' := 86) (st' := [.int (2 : Int32)]) dd221_82 rfl ?_
              obtain ⟨rfl, rfl⟩ := oret h
              exact zGo_ret dd221_86 rfl rfl
          · refine zIT dd221_71 rfl (kNeT hc) ?_
            refine zGo_s (pc' := 88) (st' := [.ref 1132]) dd221_87 rfl ?_
            refine zGo_s (pc' := 89) (st' := [.ref 1132, .ref 1132]) dd221_88 rfl ?_
            refine mGF (e := 1241) dd221_89 rfl rfl rfl rfl rfl ?_
            refine zGo_s (pc' := 94) (st' := [.int v5, .ref 1241, .ref 1132]) dd221_92 rfl ?_
            obtain ⟨hi, h⟩ := ochk h
            refine mIA dd221_94 rfl rfl hi ?_
            obtain ⟨u6, e_u6, h⟩ := olet h
            refine mPI dd221_95 rfl rfl rfl rfl rfl rfl e_u6 ?_
            refine zGo_s (pc' := 153) (st' := []) dd221_98 rfl ?_
            exact zGo_lv (lv := [(0, .ref 1132), (1, .int x1), (2, .int x2)]) ⟨by simp, by simp, by simp⟩ (f221_153_ok hd ih h)
        · refine zUT dd221_59 rfl (kNeT hc) ?_
          refine zGo_s (pc' := 102) (st' := [.int (0 : Int32)]) dd221_101 rfl ?_
          refine zGo_s (pc' := 104) (st' := []) (lv' := [(4, .int (0 : Int32)), (3, .int v3), (0, .ref 1132), (1, .int x1), (2, .int x2)]) dd221_102 rfl ?_
          exact zGo_lv (lv := [(0, .ref 1132), (1, .int x1), (2, .int x2), (3, .int v3), (4, .int (0 : Int32))]) ⟨by simp, by simp, by simp⟩ (f221_104_ok hd ih _ _ _ _ _ _ _ _ h)
      · refine zIF dd221_39 (kLtF hc) ?_
        refine zGo_s (pc' := 44) (st' := [.int (-4 : Int32)]) dd221_42 rfl ?_
        obtain ⟨rfl, rfl⟩ := oret h
        exact zGo_ret dd221_44 rfl rfl
    · refine zIT dd221_29 rfl (kGeT hc) ?_
      refine zGo_s (pc' := 170) (st' := [.int (1 : Int32)]) dd221_169 rfl ?_
      obtain ⟨rfl, rfl⟩ := oret h
      exact zGo_ret dd221_170 rfl rfl
def f221 (n : Nat) (x1 : Int32) (s : zσ) : Option (Int32 × zσ) :=
    if x1 < (1 : Int32) then
    some ((-2 : Int32), s)
    else if (500 : Int32) < x1 then
    some ((-2 : Int32), s)
    else if (s.1 1132 17) = (0 : Int32) then
    some ((-3 : Int32), s)
    else f221_27 n n x1 (0 : Int32) s
set_option maxRecDepth 20000 in
theorem f221_ok {n d : Nat} {x1 : Int32} {s : zσ} {v : Int32} {s2 : zσ} (hd : 33 ≤ d) (h : f221 n x1 s = some (v, s2)) {w : zσ} {fz : Bool} {L : Nat} {xs : Nat → Int32} : zGo (zX fz L xs) d q_221 (0, [(0, .ref 1132), (1, .int x1)], [], zmk w s, 0, 0) (some (.int v), zmk w s2, 0, 0) := by
  obtain ⟨d, rfl⟩ : ∃ d0, d = d0 + 1 := ⟨d - 1, by omega⟩
  unfold f221 at h
  refine zGo_s (pc' := 1) (st' := [.int x1]) dd221_0 rfl ?_
  refine zGo_s (pc' := 2) (st' := [.int (1 : Int32), .int x1]) dd221_1 rfl ?_
  rcases oite h with ⟨hc, h⟩ | ⟨hc, h⟩
  · refine zIT dd221_2 rfl (kLtT hc) ?_
    refine zGo_s (pc' := 14) (st' := [.int (-2 : Int32)]) dd221_12 rfl ?_
    obtain ⟨rfl, rfl⟩ := oret h
    exact zGo_ret dd221_14 rfl rfl
  · refine zIF dd221_2 (kLtF hc) ?_
    refine zGo_s (pc' := 6) (st' := [.int x1]) dd221_5 rfl ?_
    refine zGo_s (pc' := 9) (st' := [.int (500 : Int32), .int x1]) dd221_6 rfl ?_
    rcases oite h with ⟨hc, h⟩ | ⟨hc, h⟩
    · refine zIF dd221_9 (kLeF hc) ?_
      refine zGo_s (pc' := 14) (st' := [.int (-2 : Int32)]) dd221_12 rfl ?_
      obtain ⟨rfl, rfl⟩ := oret h
      exact zGo_ret dd221_14 rfl rfl
    · refine zIT dd221_9 rfl (kLeT hc) ?_
      refine zGo_s (pc' := 16) (st' := [.ref 1132]) dd221_15 rfl ?_
      refine mGI dd221_16 rfl rfl rfl rfl ?_
      rcases oite h with ⟨hc, h⟩ | ⟨hc, h⟩
      · refine zUF dd221_19 (kNeF hc) ?_
        refine zGo_s (pc' := 24) (st' := [.int (-3 : Int32)]) dd221_22 rfl ?_
        obtain ⟨rfl, rfl⟩ := oret h
        exact zGo_ret dd221_24 rfl rfl
      · refine zUT dd221_19 rfl (kNeT hc) ?_
        refine zGo_s (pc' := 26) (st' := [.int (0 : Int32)]) dd221_25 rfl ?_
        refine zGo_s (pc' := 27) (st' := []) (lv' := [(2, .int (0 : Int32)), (0, .ref 1132), (1, .int x1)]) dd221_26 rfl ?_
        exact zGo_lv (lv := [(0, .ref 1132), (1, .int x1), (2, .int (0 : Int32))]) ⟨by simp, by simp, by simp⟩ (f221_27_ok hd _ _ _ _ _ _ h)
/-! PHModel.trigger(I)I -/
theorem dd267_0 : decode cX13_trigger 0 = .ok (.aload_n 0, 1) := by decide +kernel
theorem dd267_1 : decode cX13_trigger 1 = .ok (.getfield 557, 3) := by decide +kernel
theorem dd267_4 : decode cX13_trigger 4 = .ok (.ifCond .ne 6, 3) := by decide +kernel
theorem dd267_7 : decode cX13_trigger 7 = .ok (.bipush (-3), 2) := by decide +kernel
theorem dd267_9 : decode cX13_trigger 9 = .ok (.ireturn, 1) := by decide +kernel
theorem dd267_10 : decode cX13_trigger 10 = .ok (.iload_n 1, 1) := by decide +kernel
theorem dd267_11 : decode cX13_trigger 11 = .ok (.ifCond .lt 16, 3) := by decide +kernel
theorem dd267_14 : decode cX13_trigger 14 = .ok (.iload_n 1, 1) := by decide +kernel
theorem dd267_15 : decode cX13_trigger 15 = .ok (.aload_n 0, 1) := by decide +kernel
theorem dd267_16 : decode cX13_trigger 16 = .ok (.getfield 20, 3) := by decide +kernel
theorem dd267_19 : decode cX13_trigger 19 = .ok (.getfield 270, 3) := by decide +kernel
theorem dd267_22 : decode cX13_trigger 22 = .ok (.iconst 4, 1) := by decide +kernel
theorem dd267_23 : decode cX13_trigger 23 = .ok (.iaload, 1) := by decide +kernel
theorem dd267_24 : decode cX13_trigger 24 = .ok (.if_icmp .lt 5, 3) := by decide +kernel
theorem dd267_27 : decode cX13_trigger 27 = .ok (.iconst (-1), 1) := by decide +kernel
theorem dd267_28 : decode cX13_trigger 28 = .ok (.ireturn, 1) := by decide +kernel
theorem dd267_29 : decode cX13_trigger 29 = .ok (.aload_n 0, 1) := by decide +kernel
theorem dd267_30 : decode cX13_trigger 30 = .ok (.getfield 57, 3) := by decide +kernel
theorem dd267_33 : decode cX13_trigger 33 = .ok (.iload_n 1, 1) := by decide +kernel
theorem dd267_34 : decode cX13_trigger 34 = .ok (.baload, 1) := by decide +kernel
theorem dd267_35 : decode cX13_trigger 35 = .ok (.istore_n 2, 1) := by decide +kernel
theorem dd267_36 : decode cX13_trigger 36 = .ok (.aload_n 0, 1) := by decide +kernel
theorem dd267_37 : decode cX13_trigger 37 = .ok (.iload_n 1, 1) := by decide +kernel
theorem dd267_38 : decode cX13_trigger 38 = .ok (.invokevirtual 722, 3) := by decide +kernel
theorem dd267_41 : decode cX13_trigger 41 = .ok (.iload_n 2, 1) := by decide +kernel
theorem dd267_42 : decode cX13_trigger 42 = .ok (.ifCond .eq 7, 3) := by decide +kernel
theorem dd267_45 : decode cX13_trigger 45 = .ok (.iconst 1, 1) := by decide +kernel
theorem dd267_46 : decode cX13_trigger 46 = .ok (.goto 4, 3) := by decide +kernel
theorem dd267_49 : decode cX13_trigger 49 = .ok (.iconst 0, 1) := by decide +kernel
theorem dd267_50 : decode cX13_trigger 50 = .ok (.ireturn, 1) := by decide +kernel
def f267 (n : Nat) (x1 : Int32) (s : zσ) : Option (Int32 × zσ) :=
    if (s.1 1132 17) = (0 : Int32) then
    some ((-3 : Int32), s)
    else if x1 < (0 : Int32) then
    some ((-1 : Int32), s)
    else zrd 12 (s.2.2 1132 11) fun a1 =>
    if zin? (4 : Int32) 9 = true then
    if x1 < (s.1 (a1 + 4) (nx (4 : Int32))) then
    if zin? x1 4 = true then
    zlet ((s.1 1214 (nx x1))) fun v2 =>
    yb0 (f261 n x1 s) fun u3 =>
    if v2 = (0 : Int32) then
    some ((0 : Int32), u3)
    else some ((1 : Int32), u3)
    else none
    else some ((-1 : Int32), s)
    else none
set_option maxRecDepth 20000 in
theorem f267_ok {n d : Nat} {x1 : Int32} {s : zσ} {v : Int32} {s2 : zσ} (hd : 30 ≤ d) (h : f267 n x1 s = some (v, s2)) {w : zσ} {fz : Bool} {L : Nat} {xs : Nat → Int32} : zGo (zX fz L xs) d q_267 (0, [(0, .ref 1132), (1, .int x1)], [], zmk w s, 0, 0) (some (.int v), zmk w s2, 0, 0) := by
  obtain ⟨d, rfl⟩ : ∃ d0, d = d0 + 1 := ⟨d - 1, by omega⟩
  unfold f267 at h
  refine zGo_s (pc' := 1) (st' := [.ref 1132]) dd267_0 rfl ?_
  refine mGI dd267_1 rfl rfl rfl rfl ?_
  rcases oite h with ⟨hc, h⟩ | ⟨hc, h⟩
  · refine zUF dd267_4 (kNeF hc) ?_
    refine zGo_s (pc' := 9) (st' := [.int (-3 : Int32)]) dd267_7 rfl ?_
    obtain ⟨rfl, rfl⟩ := oret h
    exact zGo_ret dd267_9 rfl rfl
  · refine zUT dd267_4 rfl (kNeT hc) ?_
    refine zGo_s (pc' := 11) (st' := [.int x1]) dd267_10 rfl ?_
    rcases oite h with ⟨hc, h⟩ | ⟨hc, h⟩
    · refine zUT dd267_11 rfl (kLtT hc) ?_
      refine zGo_s (pc' := 28) (st' := [.int (-1 : Int32)]) dd267_27 rfl ?_
      obtain ⟨rfl, rfl⟩ := oret h
      exact zGo_ret dd267_28 rfl rfl
    · refine zUF dd267_11 (kLtF hc) ?_
      refine zGo_s (pc' := 15) (st' := [.int x1]) dd267_14 rfl ?_
      refine zGo_s (pc' := 16) (st' := [.ref 1132, .int x1]) dd267_15 rfl ?_
      obtain ⟨a1, e_a1, c_a1, h⟩ := ordd h
      refine mGR dd267_16 rfl rfl rfl rfl e_a1 ?_
      refine mGF (e := (a1 + 4)) dd267_19 rfl (ck12_s c_a1).1 (ck12_s c_a1).2 rfl (cf12_4 c_a1).1 ?_
      refine zGo_s (pc' := 23) (st' := [.int (4 : Int32), .ref (a1 + 4), .int x1]) dd267_22 rfl ?_
      obtain ⟨hi, h⟩ := ochk h
      refine mIA dd267_23 (cf12_4 c_a1).2.1 (cf12_4 c_a1).2.2 hi ?_
      rcases oite h with ⟨hc, h⟩ | ⟨hc, h⟩
      · refine zIT dd267_24 rfl (kLtT hc) ?_
        refine zGo_s (pc' := 30) (st' := [.ref 1132]) dd267_29 rfl ?_
        refine mGF (e := 1214) dd267_30 rfl rfl rfl rfl rfl ?_
        refine zGo_s (pc' := 34) (st' := [.int x1, .ref 1214]) dd267_33 rfl ?_
        obtain ⟨hi, h⟩ := ochk h
        refine mBA dd267_34 rfl rfl rfl hi ?_
        obtain ⟨v2, e_v2, h⟩ := olet h
        refine zGo_is1 e_v2 dd267_35 (x' := (36, [(2, .int v2), (0, .ref 1132), (1, .int x1)], [], _, _, _)) rfl ?_
        refine zGo_s (pc' := 37) (st' := [.ref 1132]) dd267_36 rfl ?_
        refine zGo_s (pc' := 38) (st' := [.int x1, .ref 1132]) dd267_37 rfl ?_
        obtain ⟨u3, hq, h⟩ := obn0 h
        refine zCV0 (As := [.int x1]) (rest := []) (b := 1132) (q' := q_261) dd267_38 rfl rfl (rcv_m rfl rfl (by decide)) rfl rfl rfl (f261_ok (d := d) (by omega)  hq) ?_
        refine zGo_s (pc' := 42) (st' := [.int v2]) dd267_41 rfl ?_
        rcases oite h with ⟨hc, h⟩ | ⟨hc, h⟩
        · refine zUT dd267_42 rfl (kEqT hc) ?_
          refine zGo_s (pc' := 50) (st' := [.int (0 : Int32)]) dd267_49 rfl ?_
          obtain ⟨rfl, rfl⟩ := oret h
          exact zGo_ret dd267_50 rfl rfl
        · refine zUF dd267_42 (kEqF hc) ?_
          refine zGo_s (pc' := 46) (st' := [.int (1 : Int32)]) dd267_45 rfl ?_
          refine zGo_s (pc' := 50) (st' := [.int (1 : Int32)]) dd267_46 rfl ?_
          obtain ⟨rfl, rfl⟩ := oret h
          exact zGo_ret dd267_50 rfl rfl
      · refine zIF dd267_24 (kLtF hc) ?_
        refine zGo_s (pc' := 28) (st' := [.int (-1 : Int32)]) dd267_27 rfl ?_
        obtain ⟨rfl, rfl⟩ := oret h
        exact zGo_ret dd267_28 rfl rfl
/-! PHModel.send(II)I -/
theorem dd268_0 : decode cX13_send 0 = .ok (.aload_n 0, 1) := by decide +kernel
theorem dd268_1 : decode cX13_send 1 = .ok (.getfield 557, 3) := by decide +kernel
theorem dd268_4 : decode cX13_send 4 = .ok (.ifCond .ne 6, 3) := by decide +kernel
theorem dd268_7 : decode cX13_send 7 = .ok (.bipush (-3), 2) := by decide +kernel
theorem dd268_9 : decode cX13_send 9 = .ok (.ireturn, 1) := by decide +kernel
theorem dd268_10 : decode cX13_send 10 = .ok (.iload_n 1, 1) := by decide +kernel
theorem dd268_11 : decode cX13_send 11 = .ok (.ifCond .lt 16, 3) := by decide +kernel
theorem dd268_14 : decode cX13_send 14 = .ok (.iload_n 1, 1) := by decide +kernel
theorem dd268_15 : decode cX13_send 15 = .ok (.aload_n 0, 1) := by decide +kernel
theorem dd268_16 : decode cX13_send 16 = .ok (.getfield 20, 3) := by decide +kernel
theorem dd268_19 : decode cX13_send 19 = .ok (.getfield 270, 3) := by decide +kernel
theorem dd268_22 : decode cX13_send 22 = .ok (.iconst 5, 1) := by decide +kernel
theorem dd268_23 : decode cX13_send 23 = .ok (.iaload, 1) := by decide +kernel
theorem dd268_24 : decode cX13_send 24 = .ok (.if_icmp .lt 5, 3) := by decide +kernel
theorem dd268_27 : decode cX13_send 27 = .ok (.iconst (-1), 1) := by decide +kernel
theorem dd268_28 : decode cX13_send 28 = .ok (.ireturn, 1) := by decide +kernel
theorem dd268_29 : decode cX13_send 29 = .ok (.aload_n 0, 1) := by decide +kernel
theorem dd268_30 : decode cX13_send 30 = .ok (.getfield 70, 3) := by decide +kernel
theorem dd268_33 : decode cX13_send 33 = .ok (.iload_n 1, 1) := by decide +kernel
theorem dd268_34 : decode cX13_send 34 = .ok (.iaload, 1) := by decide +kernel
theorem dd268_35 : decode cX13_send 35 = .ok (.bipush 20, 2) := by decide +kernel
theorem dd268_37 : decode cX13_send 37 = .ok (.if_icmp .ne 6, 3) := by decide +kernel
theorem dd268_40 : decode cX13_send 40 = .ok (.bipush (-4), 2) := by decide +kernel
theorem dd268_42 : decode cX13_send 42 = .ok (.ireturn, 1) := by decide +kernel
theorem dd268_43 : decode cX13_send 43 = .ok (.aload_n 0, 1) := by decide +kernel
theorem dd268_44 : decode cX13_send 44 = .ok (.getfield 67, 3) := by decide +kernel
theorem dd268_47 : decode cX13_send 47 = .ok (.bipush 20, 2) := by decide +kernel
theorem dd268_49 : decode cX13_send 49 = .ok (.iload_n 1, 1) := by decide +kernel
theorem dd268_50 : decode cX13_send 50 = .ok (.imul, 1) := by decide +kernel
theorem dd268_51 : decode cX13_send 51 = .ok (.aload_n 0, 1) := by decide +kernel
theorem dd268_52 : decode cX13_send 52 = .ok (.getfield 70, 3) := by decide +kernel
theorem dd268_55 : decode cX13_send 55 = .ok (.iload_n 1, 1) := by decide +kernel
theorem dd268_56 : decode cX13_send 56 = .ok (.iaload, 1) := by decide +kernel
theorem dd268_57 : decode cX13_send 57 = .ok (.iadd, 1) := by decide +kernel
theorem dd268_58 : decode cX13_send 58 = .ok (.iload_n 2, 1) := by decide +kernel
theorem dd268_59 : decode cX13_send 59 = .ok (.iastore, 1) := by decide +kernel
theorem dd268_60 : decode cX13_send 60 = .ok (.aload_n 0, 1) := by decide +kernel
theorem dd268_61 : decode cX13_send 61 = .ok (.getfield 70, 3) := by decide +kernel
theorem dd268_64 : decode cX13_send 64 = .ok (.iload_n 1, 1) := by decide +kernel
theorem dd268_65 : decode cX13_send 65 = .ok (.dup2, 1) := by decide +kernel
theorem dd268_66 : decode cX13_send 66 = .ok (.iaload, 1) := by decide +kernel
theorem dd268_67 : decode cX13_send 67 = .ok (.iconst 1, 1) := by decide +kernel
theorem dd268_68 : decode cX13_send 68 = .ok (.iadd, 1) := by decide +kernel
theorem dd268_69 : decode cX13_send 69 = .ok (.iastore, 1) := by decide +kernel
theorem dd268_70 : decode cX13_send 70 = .ok (.aload_n 0, 1) := by decide +kernel
theorem dd268_71 : decode cX13_send 71 = .ok (.invokevirtual 659, 3) := by decide +kernel
theorem dd268_74 : decode cX13_send 74 = .ok (.aload_n 0, 1) := by decide +kernel
theorem dd268_75 : decode cX13_send 75 = .ok (.getfield 70, 3) := by decide +kernel
theorem dd268_78 : decode cX13_send 78 = .ok (.iload_n 1, 1) := by decide +kernel
theorem dd268_79 : decode cX13_send 79 = .ok (.iaload, 1) := by decide +kernel
theorem dd268_80 : decode cX13_send 80 = .ok (.ireturn, 1) := by decide +kernel
def f268 (n : Nat) (x1 : Int32) (x2 : Int32) (s : zσ) : Option (Int32 × zσ) :=
    if (s.1 1132 17) = (0 : Int32) then
    some ((-3 : Int32), s)
    else if x1 < (0 : Int32) then
    some ((-1 : Int32), s)
    else zrd 12 (s.2.2 1132 11) fun a1 =>
    if zin? (5 : Int32) 9 = true then
    if x1 < (s.1 (a1 + 4) (nx (5 : Int32))) then
    if zin? x1 4 = true then
    if (s.1 1218 (nx x1)) = (20 : Int32) then
    some ((-4 : Int32), s)
    else if zin? x1 4 = true then
    if zin? (((20 : Int32) * x1) + (s.1 1218 (nx x1))) 80 = true then
    zlet (sI s 1217 (nx (((20 : Int32) * x1) + (s.1 1218 (nx x1)))) x2) fun u2 =>
    if zin? x1 4 = true then
    if zin? x1 4 = true then
    zlet (sI u2 1218 (nx x1) ((u2.1 1218 (nx x1)) + (1 : Int32))) fun u3 =>
    yb0 (f226 n u3) fun u4 =>
    if zin? x1 4 = true then
    some ((u4.1 1218 (nx x1)), u4)
    else none
    else none
    else none
    else none
    else none
    else none
    else some ((-1 : Int32), s)
    else none
set_option maxRecDepth 20000 in
theorem f268_ok {n d : Nat} {x1 : Int32} {x2 : Int32} {s : zσ} {v : Int32} {s2 : zσ} (hd : 28 ≤ d) (h : f268 n x1 x2 s = some (v, s2)) {w : zσ} {fz : Bool} {L : Nat} {xs : Nat → Int32} : zGo (zX fz L xs) d q_268 (0, [(0, .ref 1132), (1, .int x1), (2, .int x2)], [], zmk w s, 0, 0) (some (.int v), zmk w s2, 0, 0) := by
  obtain ⟨d, rfl⟩ : ∃ d0, d = d0 + 1 := ⟨d - 1, by omega⟩
  unfold f268 at h
  refine zGo_s (pc' := 1) (st' := [.ref 1132]) dd268_0 rfl ?_
  refine mGI dd268_1 rfl rfl rfl rfl ?_
  rcases oite h with ⟨hc, h⟩ | ⟨hc, h⟩
  · refine zUF dd268_4 (kNeF hc) ?_
    refine zGo_s (pc' := 9) (st' := [.int (-3 : Int32)]) dd268_7 rfl ?_
    obtain ⟨rfl, rfl⟩ := oret h
    exact zGo_ret dd268_9 rfl rfl
  · refine zUT dd268_4 rfl (kNeT hc) ?_
    refine zGo_s (pc' := 11) (st' := [.int x1]) dd268_10 rfl ?_
    rcases oite h with ⟨hc, h⟩ | ⟨hc, h⟩
    · refine zUT dd268_11 rfl (kLtT hc) ?_
      refine zGo_s (pc' := 28) (st' := [.int (-1 : Int32)]) dd268_27 rfl ?_
      obtain ⟨rfl, rfl⟩ := oret h
      exact zGo_ret dd268_28 rfl rfl
    · refine zUF dd268_11 (kLtF hc) ?_
      refine zGo_s (pc' := 15) (st' := [.int x1]) dd268_14 rfl ?_
      refine zGo_s (pc' := 16) (st' := [.ref 1132, .int x1]) dd268_15 rfl ?_
      obtain ⟨a1, e_a1, c_a1, h⟩ := ordd h
      refine mGR dd268_16 rfl rfl rfl rfl e_a1 ?_
      refine mGF (e := (a1 + 4)) dd268_19 rfl (ck12_s c_a1).1 (ck12_s c_a1).2 rfl (cf12_4 c_a1).1 ?_
      refine zGo_s (pc' := 23) (st' := [.int (5 : Int32), .ref (a1 + 4), .int x1]) dd268_22 rfl ?_
      obtain ⟨hi, h⟩ := ochk h
      refine mIA dd268_23 (cf12_4 c_a1).2.1 (cf12_4 c_a1).2.2 hi ?_
      rcases oite h with ⟨hc, h⟩ | ⟨hc, h⟩
      · refine zIT dd268_24 rfl (kLtT hc) ?_
        refine zGo_s (pc' := 30) (st' := [.ref 1132]) dd268_29 rfl ?_
        refine mGF (e := 1218) dd268_30 rfl rfl rfl rfl rfl ?_
        refine zGo_s (pc' := 34) (st' := [.int x1, .ref 1218]) dd268_33 rfl ?_
        obtain ⟨hi, h⟩ := ochk h
        refine mIA dd268_34 rfl rfl hi ?_
        refine zGo_s (pc' := 37) (st' := [.int (20 : Int32), .int (s.1 1218 (nx x1))]) dd268_35 rfl ?_
        rcases oite h with ⟨hc, h⟩ | ⟨hc, h⟩
        · refine zIF dd268_37 (kNeF hc) ?_
          refine zGo_s (pc' := 42) (st' := [.int (-4 : Int32)]) dd268_40 rfl ?_
          obtain ⟨rfl, rfl⟩ := oret h
          exact zGo_ret dd268_42 rfl rfl
        · refine zIT dd268_37 rfl (kNeT hc) ?_
          refine zGo_s (pc' := 44) (st' := [.ref 1132]) dd268_43 rfl ?_
          refine mGF (e := 1217) dd268_44 rfl rfl rfl rfl rfl ?_
          refine zGo_s (pc' := 49) (st' := [.int (20 : Int32), .ref 1217]) dd268_47 rfl ?_
          refine zGo_s (pc' := 50) (st' := [.int x1, .int (20 : Int32), .ref 1217]) dd268_49 rfl ?_
          refine zGo_s (pc' := 51) (st' := [.int ((20 : Int32) * x1), .ref 1217]) dd268_50 rfl ?_
          refine zGo_s (pc' := 52) (st' := [.ref 1132, .int ((20 : Int32) * x1), .ref 1217]) dd268_51 rfl ?_
          refine mGF (e := 1218) dd268_52 rfl rfl rfl rfl rfl ?_
          refine zGo_s (pc' := 56) (st' := [.int x1, .ref 1218, .int ((20 : Int32) * x1), .ref 1217]) dd268_55 rfl ?_
          obtain ⟨hi, h⟩ := ochk h
          refine mIA dd268_56 rfl rfl hi ?_
          refine zGo_s (pc' := 58) (st' := [.int (((20 : Int32) * x1) + (s.1 1218 (nx x1))), .ref 1217]) dd268_57 rfl ?_
          refine zGo_s (pc' := 59) (st' := [.int x2, .int (((20 : Int32) * x1) + (s.1 1218 (nx x1))), .ref 1217]) dd268_58 rfl ?_
          obtain ⟨hi, h⟩ := ochk h
          obtain ⟨u2, e_u2, h⟩ := olet h
          refine mIS dd268_59 rfl rfl hi e_u2 ?_
          refine zGo_s (pc' := 61) (st' := [.ref 1132]) dd268_60 rfl ?_
          refine mGF (e := 1218) dd268_61 rfl rfl rfl rfl rfl ?_
          refine zGo_s (pc' := 65) (st' := [.int x1, .ref 1218]) dd268_64 rfl ?_
          refine zGo_s (pc' := 66) (st' := [.int x1, .ref 1218, .int x1, .ref 1218]) dd268_65 rfl ?_
          obtain ⟨hi, h⟩ := ochk h
          refine mIA dd268_66 rfl rfl hi ?_
          refine zGo_s (pc' := 68) (st' := [.int (1 : Int32), .int (u2.1 1218 (nx x1)), .int x1, .ref 1218]) dd268_67 rfl ?_
          refine zGo_s (pc' := 69) (st' := [.int ((u2.1 1218 (nx x1)) + (1 : Int32)), .int x1, .ref 1218]) dd268_68 rfl ?_
          obtain ⟨hi, h⟩ := ochk h
          obtain ⟨u3, e_u3, h⟩ := olet h
          refine mIS dd268_69 rfl rfl hi e_u3 ?_
          refine zGo_s (pc' := 71) (st' := [.ref 1132]) dd268_70 rfl ?_
          obtain ⟨u4, hq, h⟩ := obn0 h
          refine zCV0 (As := []) (rest := []) (b := 1132) (q' := q_226) dd268_71 rfl rfl (rcv_m rfl rfl (by decide)) rfl rfl rfl (f226_ok (d := d) (by omega)  hq) ?_
          refine zGo_s (pc' := 75) (st' := [.ref 1132]) dd268_74 rfl ?_
          refine mGF (e := 1218) dd268_75 rfl rfl rfl rfl rfl ?_
          refine zGo_s (pc' := 79) (st' := [.int x1, .ref 1218]) dd268_78 rfl ?_
          obtain ⟨hi, h⟩ := ochk h
          refine mIA dd268_79 rfl rfl hi ?_
          obtain ⟨rfl, rfl⟩ := oret h
          exact zGo_ret dd268_80 rfl rfl
      · refine zIF dd268_24 (kLtF hc) ?_
        refine zGo_s (pc' := 28) (st' := [.int (-1 : Int32)]) dd268_27 rfl ?_
        obtain ⟨rfl, rfl⟩ := oret h
        exact zGo_ret dd268_28 rfl rfl
/-! PHModel.isTask(I)Z -/
theorem dd270_0 : decode cX13_isTask 0 = .ok (.iload_n 1, 1) := by decide +kernel
theorem dd270_1 : decode cX13_isTask 1 = .ok (.ifCond .lt 15, 3) := by decide +kernel
theorem dd270_4 : decode cX13_isTask 4 = .ok (.iload_n 1, 1) := by decide +kernel
theorem dd270_5 : decode cX13_isTask 5 = .ok (.aload_n 0, 1) := by decide +kernel
theorem dd270_6 : decode cX13_isTask 6 = .ok (.invokevirtual 583, 3) := by decide +kernel
theorem dd270_9 : decode cX13_isTask 9 = .ok (.if_icmp .ge 7, 3) := by decide +kernel
theorem dd270_12 : decode cX13_isTask 12 = .ok (.iconst 1, 1) := by decide +kernel
theorem dd270_13 : decode cX13_isTask 13 = .ok (.goto 4, 3) := by decide +kernel
theorem dd270_16 : decode cX13_isTask 16 = .ok (.iconst 0, 1) := by decide +kernel
theorem dd270_17 : decode cX13_isTask 17 = .ok (.ireturn, 1) := by decide +kernel
def f270 (n : Nat) (x1 : Int32) (s : zσ) : Option (Int32 × zσ) :=
    if x1 < (0 : Int32) then
    some ((0 : Int32), s)
    else yb1 (f209 n s) fun v2 u1 =>
    if x1 < v2 then
    some ((1 : Int32), u1)
    else some ((0 : Int32), u1)
set_option maxRecDepth 20000 in
theorem f270_ok {n d : Nat} {x1 : Int32} {s : zσ} {v : Int32} {s2 : zσ} (hd : 1 ≤ d) (h : f270 n x1 s = some (v, s2)) {w : zσ} {fz : Bool} {L : Nat} {xs : Nat → Int32} : zGo (zX fz L xs) d q_270 (0, [(0, .ref 1132), (1, .int x1)], [], zmk w s, 0, 0) (some (.int v), zmk w s2, 0, 0) := by
  obtain ⟨d, rfl⟩ : ∃ d0, d = d0 + 1 := ⟨d - 1, by omega⟩
  unfold f270 at h
  refine zGo_s (pc' := 1) (st' := [.int x1]) dd270_0 rfl ?_
  rcases oite h with ⟨hc, h⟩ | ⟨hc, h⟩
  · refine zUT dd270_1 rfl (kLtT hc) ?_
    refine zGo_s (pc' := 17) (st' := [.int (0 : Int32)]) dd270_16 rfl ?_
    obtain ⟨rfl, rfl⟩ := oret h
    exact zGo_ret dd270_17 rfl rfl
  · refine zUF dd270_1 (kLtF hc) ?_
    refine zGo_s (pc' := 5) (st' := [.int x1]) dd270_4 rfl ?_
    refine zGo_s (pc' := 6) (st' := [.ref 1132, .int x1]) dd270_5 rfl ?_
    obtain ⟨v2, u1, hq, h⟩ := obnd h
    refine zCV1 (As := []) (rest := [.int x1]) (b := 1132) (q' := q_209) dd270_6 rfl rfl (rcv_m rfl rfl (by decide)) rfl rfl rfl (f209_ok (d := d) (by omega)  hq) ?_
    rcases oite h with ⟨hc, h⟩ | ⟨hc, h⟩
    · refine zIF dd270_9 (kGeF hc) ?_
      refine zGo_s (pc' := 13) (st' := [.int (1 : Int32)]) dd270_12 rfl ?_
      refine zGo_s (pc' := 17) (st' := [.int (1 : Int32)]) dd270_13 rfl ?_
      obtain ⟨rfl, rfl⟩ := oret h
      exact zGo_ret dd270_17 rfl rfl
    · refine zIT dd270_9 rfl (kGeT hc) ?_
      refine zGo_s (pc' := 17) (st' := [.int (0 : Int32)]) dd270_16 rfl ?_
      obtain ⟨rfl, rfl⟩ := oret h
      exact zGo_ret dd270_17 rfl rfl
