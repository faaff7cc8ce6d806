/-! the law over my machine: its beginning, and a lemma an operation of its loop -/
theorem zGo_xs {fz : Bool} {L : Nat} {xs : Nat → Int32} {d : Nat} {q : zMI} {pc c z : Nat} {lv : List (Nat × Value)} {st : List Value} {hp : List PE} {r : zR} {i : Int32} (hd : decode q.2.2.1 pc = .ok (.iaload, 1)) (hi : zin? i L = true) (h : zGo (zX fz L xs) d q (pc + 1, lv, .int (xs i.toNatClampNeg) :: st, hp, c, z) r) : zGo (zX fz L xs) d q (pc, lv, .int i :: .ref 62 :: st, hp, c, z) r := by
  have h5 : sHp q.1 (q.2.2.2.2.2.2 == 1) .iaload (.int i :: .ref 62 :: st) hp = none := by
    show zaI (fun t => t == 0) (.int i :: .ref 62 :: st) hp = none
    simp only [zaI, hget_ext (show 62 < zE by decide)]
  have hx : zX fz L xs d q.1 .iaload (.int i :: .ref 62 :: st) = some (1, .int (xs i.toNatClampNeg) :: st) := by
    show zxi L xs (.int i :: .ref 62 :: st) = _
    simp only [zxi, if_true, hi]
  exact zGo_X hd rfl rfl rfl rfl h5 rfl rfl rfl hx h
theorem zin?_nI {a n : Nat} (h : a < n) (hn : n < 2 ^ 31) : zin? (nI a) n = true := by
  unfold zin?
  rw [decide_eq_false (nI_pos (by omega)), nI_clamp (by omega), decide_eq_false (Nat.not_le.mpr h)]
  rfl
theorem zcV_ok {q : zMI} {st : List Value} {hp : List PE} {b : Nat} {As rest : List Value} (h0 : q.2.2.2.2.2.2 = 0) (hr : zrcv q.1 hp b = true) (hst : st = As.reverse ++ .ref b :: rest) (hn : As.length = q.2.2.2.2.2.1) (hf : zfitA q (.ref b :: As) rest = true) : zcV q st hp = some (q, .ref b :: As, rest) := by
  have hd : st.drop q.2.2.2.2.2.1 = .ref b :: rest := by rw [hst]; exact List.drop_left' (by rw [List.length_reverse]; exact hn)
  have ht : st.take q.2.2.2.2.2.1 = As.reverse := by rw [hst]; exact List.take_left' (by rw [List.length_reverse]; exact hn)
  unfold zcV
  rw [hd, ht]
  simp only [List.reverse_reverse, List.length_reverse]
  rw [if_pos ⟨h0, hr, hn, hf⟩]
/-- the long that the law makes of two ints -/
def zlong (a b : Int32) : Int64 := (a.toInt64 <<< ((32 : Int32).toInt64 &&& 63)) ||| (b.toInt64 &&& 4294967295)
set_option maxRecDepth 40000 in
set_option maxHeartbeats 4000000 in
theorem law_feed {fz : Bool} {L : Nat} {xs : Nat → Int32} {i c z c1 z1 c2 z2 : Nat} {hp hp1 hp2 : List PE} {v : Int32} {r : zR} (hi : i + 3 < L) (hL : L < 2 ^ 30) (hrx : zrcv 11 hp 1000 = true) (hrm : zrcv 13 hp1 1132 = true) (hx : zGo (zX fz L xs) 2047 (11, yX11_feed, cX11_feed, 5, some .int, 2, 0) (0, lv_args 0 [.ref 1000, .long (zlong (xs (i + 1)) (xs (i + 2))), .int (xs (i + 3))], [], hp, 0, 0) (some (.int v), hp1, c1, z1)) (hm : zGo (zX fz L xs) 2047 (13, yX13_feed, cX13_feed, 5, some .int, 2, 0) (0, lv_args 0 [.ref 1132, .long (zlong (xs (i + 1)) (xs (i + 2))), .int (xs (i + 3))], [], hp1, 0, 0) (some (.int v), hp2, c2, z2)) (h : zGo (zX fz L xs) 2048 zLaw (866, [(0, .ref 62), (1, .ref 1000), (2, .ref 1132), (3, .int (nI i))], [], hp2, c + c1 + c2, z + z1 + z2) r) : zGo (zX fz L xs) 2048 zLaw (144, [(0, .ref 62), (1, .ref 1000), (2, .ref 1132), (3, .int (nI i))], [], hp, c, z) r := by
  have e_1 : nI i + 1 = nI (i + 1) := nI_add i 1
  have h_1 : zin? (nI (i + 1)) L = true := zin?_nI (by omega) (by omega)
  have n_1 : (nI (i + 1)).toNatClampNeg = i + 1 := nI_clamp (by omega)
  have e_2 : nI i + 2 = nI (i + 2) := nI_add i 2
  have h_2 : zin? (nI (i + 2)) L = true := zin?_nI (by omega) (by omega)
  have n_2 : (nI (i + 2)).toNatClampNeg = i + 2 := nI_clamp (by omega)
  have e_3 : nI i + 3 = nI (i + 3) := nI_add i 3
  have h_3 : zin? (nI (i + 3)) L = true := zin?_nI (by omega) (by omega)
  have n_3 : (nI (i + 3)).toNatClampNeg = i + 3 := nI_clamp (by omega)
  refine zGo_s (pc' := 145) (st' := [.ref 1000]) (yd (j := 1000) (ins := .aload_n 1) (len := 1) rfl rfl) rfl ?_
  refine zGo_s (pc' := 146) (st' := [.ref 62, .ref 1000]) (yd (j := 1000) (ins := .aload_n 0) (len := 1) rfl rfl) rfl ?_
  refine zGo_s (pc' := 147) (st' := [.int (nI i), .ref 62, .ref 1000]) (yd (j := 1000) (ins := .iload_n 3) (len := 1) rfl rfl) rfl ?_
  refine zGo_s (pc' := 148) (st' := [.int 1, .int (nI i), .ref 62, .ref 1000]) (yd (j := 1000) (ins := .iconst 1) (len := 1) rfl rfl) rfl ?_
  refine zGo_s (pc' := 149) (st' := [.int (nI i + 1), .ref 62, .ref 1000]) (yd (j := 1000) (ins := .iadd) (len := 1) rfl rfl) rfl ?_
  rw [e_1]
  refine zGo_xs (yd (j := 1000) (ins := .iaload) (len := 1) rfl rfl) h_1 ?_
  rw [n_1]
  refine zGo_s (pc' := 151) (st' := [.long (xs (i + 1)).toInt64, .ref 1000]) (yd (j := 1000) (ins := .i2l) (len := 1) rfl rfl) rfl ?_
  refine zGo_s (pc' := 153) (st' := [.int 32, .long (xs (i + 1)).toInt64, .ref 1000]) (yd (j := 1000) (ins := .bipush 32) (len := 2) rfl rfl) rfl ?_
  refine zGo_s (pc' := 154) (st' := [.long ((xs (i + 1)).toInt64 <<< ((32 : Int32).toInt64 &&& 63)), .ref 1000]) (yd (j := 1000) (ins := .lshl) (len := 1) rfl rfl) rfl ?_
  refine zGo_s (pc' := 155) (st' := [.ref 62, .long ((xs (i + 1)).toInt64 <<< ((32 : Int32).toInt64 &&& 63)), .ref 1000]) (yd (j := 1000) (ins := .aload_n 0) (len := 1) rfl rfl) rfl ?_
  refine zGo_s (pc' := 156) (st' := [.int (nI i), .ref 62, .long ((xs (i + 1)).toInt64 <<< ((32 : Int32).toInt64 &&& 63)), .ref 1000]) (yd (j := 1000) (ins := .iload_n 3) (len := 1) rfl rfl) rfl ?_
  refine zGo_s (pc' := 157) (st' := [.int 2, .int (nI i), .ref 62, .long ((xs (i + 1)).toInt64 <<< ((32 : Int32).toInt64 &&& 63)), .ref 1000]) (yd (j := 1000) (ins := .iconst 2) (len := 1) rfl rfl) rfl ?_
  refine zGo_s (pc' := 158) (st' := [.int (nI i + 2), .ref 62, .long ((xs (i + 1)).toInt64 <<< ((32 : Int32).toInt64 &&& 63)), .ref 1000]) (yd (j := 1000) (ins := .iadd) (len := 1) rfl rfl) rfl ?_
  rw [e_2]
  refine zGo_xs (yd (j := 1000) (ins := .iaload) (len := 1) rfl rfl) h_2 ?_
  rw [n_2]
  refine zGo_s (pc' := 160) (st' := [.long (xs (i + 2)).toInt64, .long ((xs (i + 1)).toInt64 <<< ((32 : Int32).toInt64 &&& 63)), .ref 1000]) (yd (j := 1000) (ins := .i2l) (len := 1) rfl rfl) rfl ?_
  refine zGo_s (pc' := 163) (st' := [.long 4294967295, .long (xs (i + 2)).toInt64, .long ((xs (i + 1)).toInt64 <<< ((32 : Int32).toInt64 &&& 63)), .ref 1000]) (yd (j := 1000) (ins := .ldc2_w 13) (len := 3) rfl rfl) rfl ?_
  refine zGo_s (pc' := 164) (st' := [.long ((xs (i + 2)).toInt64 &&& 4294967295), .long ((xs (i + 1)).toInt64 <<< ((32 : Int32).toInt64 &&& 63)), .ref 1000]) (yd (j := 1000) (ins := .land) (len := 1) rfl rfl) rfl ?_
  refine zGo_s (pc' := 165) (st' := [.long (zlong (xs (i + 1)) (xs (i + 2))), .ref 1000]) (yd (j := 1000) (ins := .lor) (len := 1) rfl rfl) rfl ?_
  refine zGo_s (pc' := 166) (st' := [.ref 62, .long (zlong (xs (i + 1)) (xs (i + 2))), .ref 1000]) (yd (j := 1000) (ins := .aload_n 0) (len := 1) rfl rfl) rfl ?_
  refine zGo_s (pc' := 167) (st' := [.int (nI i), .ref 62, .long (zlong (xs (i + 1)) (xs (i + 2))), .ref 1000]) (yd (j := 1000) (ins := .iload_n 3) (len := 1) rfl rfl) rfl ?_
  refine zGo_s (pc' := 168) (st' := [.int 3, .int (nI i), .ref 62, .long (zlong (xs (i + 1)) (xs (i + 2))), .ref 1000]) (yd (j := 1000) (ins := .iconst 3) (len := 1) rfl rfl) rfl ?_
  refine zGo_s (pc' := 169) (st' := [.int (nI i + 3), .ref 62, .long (zlong (xs (i + 1)) (xs (i + 2))), .ref 1000]) (yd (j := 1000) (ins := .iadd) (len := 1) rfl rfl) rfl ?_
  rw [e_3]
  refine zGo_xs (yd (j := 1000) (ins := .iaload) (len := 1) rfl rfl) h_3 ?_
  rw [n_3]
  refine zGo_call (d := 2047) (as := [.ref 1000, .long (zlong (xs (i + 1)) (xs (i + 2))), .int (xs (i + 3))]) (rest := []) (rv := some (.int v)) (q' := (11, yX11_feed, cX11_feed, 5, some .int, 2, 0)) (yd (j := 1000) (ins := .invokevirtual 15) (len := 3) rfl rfl) rfl rfl (show zcV (11, yX11_feed, cX11_feed, 5, some .int, 2, 0) [.int (xs (i + 3)), .long (zlong (xs (i + 1)) (xs (i + 2))), .ref 1000] hp = some ((11, yX11_feed, cX11_feed, 5, some .int, 2, 0), [.ref 1000, .long (zlong (xs (i + 1)) (xs (i + 2))), .int (xs (i + 3))], []) from zcV_ok (b := 1000) (As := [.long (zlong (xs (i + 1)) (xs (i + 2))), .int (xs (i + 3))]) rfl hrx rfl rfl rfl) hx ?_
  refine zGo_s (pc' := 174) (st' := [.ref 1132, .int v]) (yd (j := 1000) (ins := .aload_n 2) (len := 1) rfl rfl) rfl ?_
  refine zGo_s (pc' := 175) (st' := [.ref 62, .ref 1132, .int v]) (yd (j := 1000) (ins := .aload_n 0) (len := 1) rfl rfl) rfl ?_
  refine zGo_s (pc' := 176) (st' := [.int (nI i), .ref 62, .ref 1132, .int v]) (yd (j := 1000) (ins := .iload_n 3) (len := 1) rfl rfl) rfl ?_
  refine zGo_s (pc' := 177) (st' := [.int 1, .int (nI i), .ref 62, .ref 1132, .int v]) (yd (j := 1000) (ins := .iconst 1) (len := 1) rfl rfl) rfl ?_
  refine zGo_s (pc' := 178) (st' := [.int (nI i + 1), .ref 62, .ref 1132, .int v]) (yd (j := 1000) (ins := .iadd) (len := 1) rfl rfl) rfl ?_
  rw [e_1]
  refine zGo_xs (yd (j := 1000) (ins := .iaload) (len := 1) rfl rfl) h_1 ?_
  rw [n_1]
  refine zGo_s (pc' := 180) (st' := [.long (xs (i + 1)).toInt64, .ref 1132, .int v]) (yd (j := 1000) (ins := .i2l) (len := 1) rfl rfl) rfl ?_
  refine zGo_s (pc' := 182) (st' := [.int 32, .long (xs (i + 1)).toInt64, .ref 1132, .int v]) (yd (j := 1000) (ins := .bipush 32) (len := 2) rfl rfl) rfl ?_
  refine zGo_s (pc' := 183) (st' := [.long ((xs (i + 1)).toInt64 <<< ((32 : Int32).toInt64 &&& 63)), .ref 1132, .int v]) (yd (j := 1000) (ins := .lshl) (len := 1) rfl rfl) rfl ?_
  refine zGo_s (pc' := 184) (st' := [.ref 62, .long ((xs (i + 1)).toInt64 <<< ((32 : Int32).toInt64 &&& 63)), .ref 1132, .int v]) (yd (j := 1000) (ins := .aload_n 0) (len := 1) rfl rfl) rfl ?_
  refine zGo_s (pc' := 185) (st' := [.int (nI i), .ref 62, .long ((xs (i + 1)).toInt64 <<< ((32 : Int32).toInt64 &&& 63)), .ref 1132, .int v]) (yd (j := 1000) (ins := .iload_n 3) (len := 1) rfl rfl) rfl ?_
  refine zGo_s (pc' := 186) (st' := [.int 2, .int (nI i), .ref 62, .long ((xs (i + 1)).toInt64 <<< ((32 : Int32).toInt64 &&& 63)), .ref 1132, .int v]) (yd (j := 1000) (ins := .iconst 2) (len := 1) rfl rfl) rfl ?_
  refine zGo_s (pc' := 187) (st' := [.int (nI i + 2), .ref 62, .long ((xs (i + 1)).toInt64 <<< ((32 : Int32).toInt64 &&& 63)), .ref 1132, .int v]) (yd (j := 1000) (ins := .iadd) (len := 1) rfl rfl) rfl ?_
  rw [e_2]
  refine zGo_xs (yd (j := 1000) (ins := .iaload) (len := 1) rfl rfl) h_2 ?_
  rw [n_2]
  refine zGo_s (pc' := 189) (st' := [.long (xs (i + 2)).toInt64, .long ((xs (i + 1)).toInt64 <<< ((32 : Int32).toInt64 &&& 63)), .ref 1132, .int v]) (yd (j := 1000) (ins := .i2l) (len := 1) rfl rfl) rfl ?_
  refine zGo_s (pc' := 192) (st' := [.long 4294967295, .long (xs (i + 2)).toInt64, .long ((xs (i + 1)).toInt64 <<< ((32 : Int32).toInt64 &&& 63)), .ref 1132, .int v]) (yd (j := 1000) (ins := .ldc2_w 13) (len := 3) rfl rfl) rfl ?_
  refine zGo_s (pc' := 193) (st' := [.long ((xs (i + 2)).toInt64 &&& 4294967295), .long ((xs (i + 1)).toInt64 <<< ((32 : Int32).toInt64 &&& 63)), .ref 1132, .int v]) (yd (j := 1000) (ins := .land) (len := 1) rfl rfl) rfl ?_
  refine zGo_s (pc' := 194) (st' := [.long (zlong (xs (i + 1)) (xs (i + 2))), .ref 1132, .int v]) (yd (j := 1000) (ins := .lor) (len := 1) rfl rfl) rfl ?_
  refine zGo_s (pc' := 195) (st' := [.ref 62, .long (zlong (xs (i + 1)) (xs (i + 2))), .ref 1132, .int v]) (yd (j := 1000) (ins := .aload_n 0) (len := 1) rfl rfl) rfl ?_
  refine zGo_s (pc' := 196) (st' := [.int (nI i), .ref 62, .long (zlong (xs (i + 1)) (xs (i + 2))), .ref 1132, .int v]) (yd (j := 1000) (ins := .iload_n 3) (len := 1) rfl rfl) rfl ?_
  refine zGo_s (pc' := 197) (st' := [.int 3, .int (nI i), .ref 62, .long (zlong (xs (i + 1)) (xs (i + 2))), .ref 1132, .int v]) (yd (j := 1000) (ins := .iconst 3) (len := 1) rfl rfl) rfl ?_
  refine zGo_s (pc' := 198) (st' := [.int (nI i + 3), .ref 62, .long (zlong (xs (i + 1)) (xs (i + 2))), .ref 1132, .int v]) (yd (j := 1000) (ins := .iadd) (len := 1) rfl rfl) rfl ?_
  rw [e_3]
  refine zGo_xs (yd (j := 1000) (ins := .iaload) (len := 1) rfl rfl) h_3 ?_
  rw [n_3]
  refine zGo_call (d := 2047) (as := [.ref 1132, .long (zlong (xs (i + 1)) (xs (i + 2))), .int (xs (i + 3))]) (rest := [.int v]) (rv := some (.int v)) (q' := (13, yX13_feed, cX13_feed, 5, some .int, 2, 0)) (yd (j := 1000) (ins := .invokevirtual 19) (len := 3) rfl rfl) rfl rfl (show zcV (13, yX13_feed, cX13_feed, 5, some .int, 2, 0) [.int (xs (i + 3)), .long (zlong (xs (i + 1)) (xs (i + 2))), .ref 1132, .int v] hp1 = some ((13, yX13_feed, cX13_feed, 5, some .int, 2, 0), [.ref 1132, .long (zlong (xs (i + 1)) (xs (i + 2))), .int (xs (i + 3))], [.int v]) from zcV_ok (b := 1132) (As := [.long (zlong (xs (i + 1)) (xs (i + 2))), .int (xs (i + 3))]) rfl hrm rfl rfl rfl) hm ?_
  refine zGo_icmp (t := 866) (yd (j := 1000) (ins := .if_icmp .eq 664) (len := 3) rfl rfl) rfl (fun _ => ?_) (fun h9 => absurd rfl (of_decide_eq_false h9))
  exact h
set_option maxRecDepth 40000 in
set_option maxHeartbeats 4000000 in
theorem law_module {fz : Bool} {L : Nat} {xs : Nat → Int32} {i c z c1 z1 c2 z2 : Nat} {hp hp1 hp2 : List PE} {v : Int32} {r : zR} (hi : i + 3 < L) (hL : L < 2 ^ 30) (hrx : zrcv 11 hp 1000 = true) (hrm : zrcv 13 hp1 1132 = true) (hx : zGo (zX fz L xs) 2047 (11, yX11_module, cX11_module, 3, some .int, 0, 0) (0, lv_args 0 [.ref 1000], [], hp, 0, 0) (some (.int v), hp1, c1, z1)) (hm : zGo (zX fz L xs) 2047 (13, yX13_module, cX13_module, 3, some .int, 0, 0) (0, lv_args 0 [.ref 1132], [], hp1, 0, 0) (some (.int v), hp2, c2, z2)) (h : zGo (zX fz L xs) 2048 zLaw (866, [(0, .ref 62), (1, .ref 1000), (2, .ref 1132), (3, .int (nI i))], [], hp2, c + c1 + c2, z + z1 + z2) r) : zGo (zX fz L xs) 2048 zLaw (207, [(0, .ref 62), (1, .ref 1000), (2, .ref 1132), (3, .int (nI i))], [], hp, c, z) r := by
  have e_1 : nI i + 1 = nI (i + 1) := nI_add i 1
  have h_1 : zin? (nI (i + 1)) L = true := zin?_nI (by omega) (by omega)
  have n_1 : (nI (i + 1)).toNatClampNeg = i + 1 := nI_clamp (by omega)
  have e_2 : nI i + 2 = nI (i + 2) := nI_add i 2
  have h_2 : zin? (nI (i + 2)) L = true := zin?_nI (by omega) (by omega)
  have n_2 : (nI (i + 2)).toNatClampNeg = i + 2 := nI_clamp (by omega)
  have e_3 : nI i + 3 = nI (i + 3) := nI_add i 3
  have h_3 : zin? (nI (i + 3)) L = true := zin?_nI (by omega) (by omega)
  have n_3 : (nI (i + 3)).toNatClampNeg = i + 3 := nI_clamp (by omega)
  refine zGo_s (pc' := 208) (st' := [.ref 1000]) (yd (j := 1000) (ins := .aload_n 1) (len := 1) rfl rfl) rfl ?_
  refine zGo_call (d := 2047) (as := [.ref 1000]) (rest := []) (rv := some (.int v)) (q' := (11, yX11_module, cX11_module, 3, some .int, 0, 0)) (yd (j := 1000) (ins := .invokevirtual 20) (len := 3) rfl rfl) rfl rfl (show zcV (11, yX11_module, cX11_module, 3, some .int, 0, 0) [.ref 1000] hp = some ((11, yX11_module, cX11_module, 3, some .int, 0, 0), [.ref 1000], []) from zcV_ok (b := 1000) (As := []) rfl hrx rfl rfl rfl) hx ?_
  refine zGo_s (pc' := 212) (st' := [.ref 1132, .int v]) (yd (j := 1000) (ins := .aload_n 2) (len := 1) rfl rfl) rfl ?_
  refine zGo_call (d := 2047) (as := [.ref 1132]) (rest := [.int v]) (rv := some (.int v)) (q' := (13, yX13_module, cX13_module, 3, some .int, 0, 0)) (yd (j := 1000) (ins := .invokevirtual 24) (len := 3) rfl rfl) rfl rfl (show zcV (13, yX13_module, cX13_module, 3, some .int, 0, 0) [.ref 1132, .int v] hp1 = some ((13, yX13_module, cX13_module, 3, some .int, 0, 0), [.ref 1132], [.int v]) from zcV_ok (b := 1132) (As := []) rfl hrm rfl rfl rfl) hm ?_
  refine zGo_icmp (t := 866) (yd (j := 1000) (ins := .if_icmp .eq 651) (len := 3) rfl rfl) rfl (fun _ => ?_) (fun h9 => absurd rfl (of_decide_eq_false h9))
  exact h
set_option maxRecDepth 40000 in
set_option maxHeartbeats 4000000 in
theorem law_place {fz : Bool} {L : Nat} {xs : Nat → Int32} {i c z c1 z1 c2 z2 : Nat} {hp hp1 hp2 : List PE} {v : Int32} {r : zR} (hi : i + 3 < L) (hL : L < 2 ^ 30) (hrx : zrcv 11 hp 1000 = true) (hrm : zrcv 13 hp1 1132 = true) (hx : zGo (zX fz L xs) 2047 (11, yX11_place, cX11_place, 1, some .int, 0, 0) (0, lv_args 0 [.ref 1000], [], hp, 0, 0) (some (.int v), hp1, c1, z1)) (hm : zGo (zX fz L xs) 2047 (13, yX13_place, cX13_place, 1, some .int, 0, 0) (0, lv_args 0 [.ref 1132], [], hp1, 0, 0) (some (.int v), hp2, c2, z2)) (h : zGo (zX fz L xs) 2048 zLaw (866, [(0, .ref 62), (1, .ref 1000), (2, .ref 1132), (3, .int (nI i))], [], hp2, c + c1 + c2, z + z1 + z2) r) : zGo (zX fz L xs) 2048 zLaw (220, [(0, .ref 62), (1, .ref 1000), (2, .ref 1132), (3, .int (nI i))], [], hp, c, z) r := by
  have e_1 : nI i + 1 = nI (i + 1) := nI_add i 1
  have h_1 : zin? (nI (i + 1)) L = true := zin?_nI (by omega) (by omega)
  have n_1 : (nI (i + 1)).toNatClampNeg = i + 1 := nI_clamp (by omega)
  have e_2 : nI i + 2 = nI (i + 2) := nI_add i 2
  have h_2 : zin? (nI (i + 2)) L = true := zin?_nI (by omega) (by omega)
  have n_2 : (nI (i + 2)).toNatClampNeg = i + 2 := nI_clamp (by omega)
  have e_3 : nI i + 3 = nI (i + 3) := nI_add i 3
  have h_3 : zin? (nI (i + 3)) L = true := zin?_nI (by omega) (by omega)
  have n_3 : (nI (i + 3)).toNatClampNeg = i + 3 := nI_clamp (by omega)
  refine zGo_s (pc' := 221) (st' := [.ref 1000]) (yd (j := 1000) (ins := .aload_n 1) (len := 1) rfl rfl) rfl ?_
  refine zGo_call (d := 2047) (as := [.ref 1000]) (rest := []) (rv := some (.int v)) (q' := (11, yX11_place, cX11_place, 1, some .int, 0, 0)) (yd (j := 1000) (ins := .invokevirtual 25) (len := 3) rfl rfl) rfl rfl (show zcV (11, yX11_place, cX11_place, 1, some .int, 0, 0) [.ref 1000] hp = some ((11, yX11_place, cX11_place, 1, some .int, 0, 0), [.ref 1000], []) from zcV_ok (b := 1000) (As := []) rfl hrx rfl rfl rfl) hx ?_
  refine zGo_s (pc' := 225) (st' := [.ref 1132, .int v]) (yd (j := 1000) (ins := .aload_n 2) (len := 1) rfl rfl) rfl ?_
  refine zGo_call (d := 2047) (as := [.ref 1132]) (rest := [.int v]) (rv := some (.int v)) (q' := (13, yX13_place, cX13_place, 1, some .int, 0, 0)) (yd (j := 1000) (ins := .invokevirtual 28) (len := 3) rfl rfl) rfl rfl (show zcV (13, yX13_place, cX13_place, 1, some .int, 0, 0) [.ref 1132, .int v] hp1 = some ((13, yX13_place, cX13_place, 1, some .int, 0, 0), [.ref 1132], [.int v]) from zcV_ok (b := 1132) (As := []) rfl hrm rfl rfl rfl) hm ?_
  refine zGo_icmp (t := 866) (yd (j := 1000) (ins := .if_icmp .eq 638) (len := 3) rfl rfl) rfl (fun _ => ?_) (fun h9 => absurd rfl (of_decide_eq_false h9))
  exact h
set_option maxRecDepth 40000 in
set_option maxHeartbeats 4000000 in
theorem law_declared {fz : Bool} {L : Nat} {xs : Nat → Int32} {i c z c1 z1 c2 z2 : Nat} {hp hp1 hp2 : List PE} {v : Int32} {r : zR} (hi : i + 3 < L) (hL : L < 2 ^ 30) (hrx : zrcv 11 hp 1000 = true) (hrm : zrcv 13 hp1 1132 = true) (hx : zGo (zX fz L xs) 2047 (11, yX11_declared, cX11_declared, 2, some .int, 1, 0) (0, lv_args 0 [.ref 1000, .int (xs (i + 1))], [], hp, 0, 0) (some (.int v), hp1, c1, z1)) (hm : zGo (zX fz L xs) 2047 (13, yX13_declared, cX13_declared, 2, some .int, 1, 0) (0, lv_args 0 [.ref 1132, .int (xs (i + 1))], [], hp1, 0, 0) (some (.int v), hp2, c2, z2)) (h : zGo (zX fz L xs) 2048 zLaw (866, [(0, .ref 62), (1, .ref 1000), (2, .ref 1132), (3, .int (nI i))], [], hp2, c + c1 + c2, z + z1 + z2) r) : zGo (zX fz L xs) 2048 zLaw (233, [(0, .ref 62), (1, .ref 1000), (2, .ref 1132), (3, .int (nI i))], [], hp, c, z) r := by
  have e_1 : nI i + 1 = nI (i + 1) := nI_add i 1
  have h_1 : zin? (nI (i + 1)) L = true := zin?_nI (by omega) (by omega)
  have n_1 : (nI (i + 1)).toNatClampNeg = i + 1 := nI_clamp (by omega)
  have e_2 : nI i + 2 = nI (i + 2) := nI_add i 2
  have h_2 : zin? (nI (i + 2)) L = true := zin?_nI (by omega) (by omega)
  have n_2 : (nI (i + 2)).toNatClampNeg = i + 2 := nI_clamp (by omega)
  have e_3 : nI i + 3 = nI (i + 3) := nI_add i 3
  have h_3 : zin? (nI (i + 3)) L = true := zin?_nI (by omega) (by omega)
  have n_3 : (nI (i + 3)).toNatClampNeg = i + 3 := nI_clamp (by omega)
  refine zGo_s (pc' := 234) (st' := [.ref 1000]) (yd (j := 1000) (ins := .aload_n 1) (len := 1) rfl rfl) rfl ?_
  refine zGo_s (pc' := 235) (st' := [.ref 62, .ref 1000]) (yd (j := 1000) (ins := .aload_n 0) (len := 1) rfl rfl) rfl ?_
  refine zGo_s (pc' := 236) (st' := [.int (nI i), .ref 62, .ref 1000]) (yd (j := 1000) (ins := .iload_n 3) (len := 1) rfl rfl) rfl ?_
  refine zGo_s (pc' := 237) (st' := [.int 1, .int (nI i), .ref 62, .ref 1000]) (yd (j := 1000) (ins := .iconst 1) (len := 1) rfl rfl) rfl ?_
  refine zGo_s (pc' := 238) (st' := [.int (nI i + 1), .ref 62, .ref 1000]) (yd (j := 1000) (ins := .iadd) (len := 1) rfl rfl) rfl ?_
  rw [e_1]
  refine zGo_xs (yd (j := 1000) (ins := .iaload) (len := 1) rfl rfl) h_1 ?_
  rw [n_1]
  refine zGo_call (d := 2047) (as := [.ref 1000, .int (xs (i + 1))]) (rest := []) (rv := some (.int v)) (q' := (11, yX11_declared, cX11_declared, 2, some .int, 1, 0)) (yd (j := 1000) (ins := .invokevirtual 29) (len := 3) rfl rfl) rfl rfl (show zcV (11, yX11_declared, cX11_declared, 2, some .int, 1, 0) [.int (xs (i + 1)), .ref 1000] hp = some ((11, yX11_declared, cX11_declared, 2, some .int, 1, 0), [.ref 1000, .int (xs (i + 1))], []) from zcV_ok (b := 1000) (As := [.int (xs (i + 1))]) rfl hrx rfl rfl rfl) hx ?_
  refine zGo_s (pc' := 243) (st' := [.ref 1132, .int v]) (yd (j := 1000) (ins := .aload_n 2) (len := 1) rfl rfl) rfl ?_
  refine zGo_s (pc' := 244) (st' := [.ref 62, .ref 1132, .int v]) (yd (j := 1000) (ins := .aload_n 0) (len := 1) rfl rfl) rfl ?_
  refine zGo_s (pc' := 245) (st' := [.int (nI i), .ref 62, .ref 1132, .int v]) (yd (j := 1000) (ins := .iload_n 3) (len := 1) rfl rfl) rfl ?_
  refine zGo_s (pc' := 246) (st' := [.int 1, .int (nI i), .ref 62, .ref 1132, .int v]) (yd (j := 1000) (ins := .iconst 1) (len := 1) rfl rfl) rfl ?_
  refine zGo_s (pc' := 247) (st' := [.int (nI i + 1), .ref 62, .ref 1132, .int v]) (yd (j := 1000) (ins := .iadd) (len := 1) rfl rfl) rfl ?_
  rw [e_1]
  refine zGo_xs (yd (j := 1000) (ins := .iaload) (len := 1) rfl rfl) h_1 ?_
  rw [n_1]
  refine zGo_call (d := 2047) (as := [.ref 1132, .int (xs (i + 1))]) (rest := [.int v]) (rv := some (.int v)) (q' := (13, yX13_declared, cX13_declared, 2, some .int, 1, 0)) (yd (j := 1000) (ins := .invokevirtual 33) (len := 3) rfl rfl) rfl rfl (show zcV (13, yX13_declared, cX13_declared, 2, some .int, 1, 0) [.int (xs (i + 1)), .ref 1132, .int v] hp1 = some ((13, yX13_declared, cX13_declared, 2, some .int, 1, 0), [.ref 1132, .int (xs (i + 1))], [.int v]) from zcV_ok (b := 1132) (As := [.int (xs (i + 1))]) rfl hrm rfl rfl rfl) hm ?_
  refine zGo_icmp (t := 866) (yd (j := 1000) (ins := .if_icmp .eq 615) (len := 3) rfl rfl) rfl (fun _ => ?_) (fun h9 => absurd rfl (of_decide_eq_false h9))
  exact h
set_option maxRecDepth 40000 in
set_option maxHeartbeats 4000000 in
theorem law_find {fz : Bool} {L : Nat} {xs : Nat → Int32} {i c z c1 z1 c2 z2 : Nat} {hp hp1 hp2 : List PE} {v : Int32} {r : zR} (hi : i + 3 < L) (hL : L < 2 ^ 30) (hrx : zrcv 11 hp 1000 = true) (hrm : zrcv 13 hp1 1132 = true) (hx : zGo (zX fz L xs) 2047 (11, yX11_find, cX11_find, 4, some .int, 2, 0) (0, lv_args 0 [.ref 1000, .int (xs (i + 1)), .long (zlong (xs (i + 2)) (xs (i + 3)))], [], hp, 0, 0) (some (.int v), hp1, c1, z1)) (hm : zGo (zX fz L xs) 2047 (13, yX13_find, cX13_find, 5, some .int, 2, 0) (0, lv_args 0 [.ref 1132, .int (xs (i + 1)), .long (zlong (xs (i + 2)) (xs (i + 3)))], [], hp1, 0, 0) (some (.int v), hp2, c2, z2)) (h : zGo (zX fz L xs) 2048 zLaw (866, [(0, .ref 62), (1, .ref 1000), (2, .ref 1132), (3, .int (nI i))], [], hp2, c + c1 + c2, z + z1 + z2) r) : zGo (zX fz L xs) 2048 zLaw (256, [(0, .ref 62), (1, .ref 1000), (2, .ref 1132), (3, .int (nI i))], [], hp, c, z) r := by
  have e_1 : nI i + 1 = nI (i + 1) := nI_add i 1
  have h_1 : zin? (nI (i + 1)) L = true := zin?_nI (by omega) (by omega)
  have n_1 : (nI (i + 1)).toNatClampNeg = i + 1 := nI_clamp (by omega)
  have e_2 : nI i + 2 = nI (i + 2) := nI_add i 2
  have h_2 : zin? (nI (i + 2)) L = true := zin?_nI (by omega) (by omega)
  have n_2 : (nI (i + 2)).toNatClampNeg = i + 2 := nI_clamp (by omega)
  have e_3 : nI i + 3 = nI (i + 3) := nI_add i 3
  have h_3 : zin? (nI (i + 3)) L = true := zin?_nI (by omega) (by omega)
  have n_3 : (nI (i + 3)).toNatClampNeg = i + 3 := nI_clamp (by omega)
  refine zGo_s (pc' := 257) (st' := [.ref 1000]) (yd (j := 1000) (ins := .aload_n 1) (len := 1) rfl rfl) rfl ?_
  refine zGo_s (pc' := 258) (st' := [.ref 62, .ref 1000]) (yd (j := 1000) (ins := .aload_n 0) (len := 1) rfl rfl) rfl ?_
  refine zGo_s (pc' := 259) (st' := [.int (nI i), .ref 62, .ref 1000]) (yd (j := 1000) (ins := .iload_n 3) (len := 1) rfl rfl) rfl ?_
  refine zGo_s (pc' := 260) (st' := [.int 1, .int (nI i), .ref 62, .ref 1000]) (yd (j := 1000) (ins := .iconst 1) (len := 1) rfl rfl) rfl ?_
  refine zGo_s (pc' := 261) (st' := [.int (nI i + 1), .ref 62, .ref 1000]) (yd (j := 1000) (ins := .iadd) (len := 1) rfl rfl) rfl ?_
  rw [e_1]
  refine zGo_xs (yd (j := 1000) (ins := .iaload) (len := 1) rfl rfl) h_1 ?_
  rw [n_1]
  refine zGo_s (pc' := 263) (st' := [.ref 62, .int (xs (i + 1)), .ref 1000]) (yd (j := 1000) (ins := .aload_n 0) (len := 1) rfl rfl) rfl ?_
  refine zGo_s (pc' := 264) (st' := [.int (nI i), .ref 62, .int (xs (i + 1)), .ref 1000]) (yd (j := 1000) (ins := .iload_n 3) (len := 1) rfl rfl) rfl ?_
  refine zGo_s (pc' := 265) (st' := [.int 2, .int (nI i), .ref 62, .int (xs (i + 1)), .ref 1000]) (yd (j := 1000) (ins := .iconst 2) (len := 1) rfl rfl) rfl ?_
  refine zGo_s (pc' := 266) (st' := [.int (nI i + 2), .ref 62, .int (xs (i + 1)), .ref 1000]) (yd (j := 1000) (ins := .iadd) (len := 1) rfl rfl) rfl ?_
  rw [e_2]
  refine zGo_xs (yd (j := 1000) (ins := .iaload) (len := 1) rfl rfl) h_2 ?_
  rw [n_2]
  refine zGo_s (pc' := 268) (st' := [.long (xs (i + 2)).toInt64, .int (xs (i + 1)), .ref 1000]) (yd (j := 1000) (ins := .i2l) (len := 1) rfl rfl) rfl ?_
  refine zGo_s (pc' := 270) (st' := [.int 32, .long (xs (i + 2)).toInt64, .int (xs (i + 1)), .ref 1000]) (yd (j := 1000) (ins := .bipush 32) (len := 2) rfl rfl) rfl ?_
  refine zGo_s (pc' := 271) (st' := [.long ((xs (i + 2)).toInt64 <<< ((32 : Int32).toInt64 &&& 63)), .int (xs (i + 1)), .ref 1000]) (yd (j := 1000) (ins := .lshl) (len := 1) rfl rfl) rfl ?_
  refine zGo_s (pc' := 272) (st' := [.ref 62, .long ((xs (i + 2)).toInt64 <<< ((32 : Int32).toInt64 &&& 63)), .int (xs (i + 1)), .ref 1000]) (yd (j := 1000) (ins := .aload_n 0) (len := 1) rfl rfl) rfl ?_
  refine zGo_s (pc' := 273) (st' := [.int (nI i), .ref 62, .long ((xs (i + 2)).toInt64 <<< ((32 : Int32).toInt64 &&& 63)), .int (xs (i + 1)), .ref 1000]) (yd (j := 1000) (ins := .iload_n 3) (len := 1) rfl rfl) rfl ?_
  refine zGo_s (pc' := 274) (st' := [.int 3, .int (nI i), .ref 62, .long ((xs (i + 2)).toInt64 <<< ((32 : Int32).toInt64 &&& 63)), .int (xs (i + 1)), .ref 1000]) (yd (j := 1000) (ins := .iconst 3) (len := 1) rfl rfl) rfl ?_
  refine zGo_s (pc' := 275) (st' := [.int (nI i + 3), .ref 62, .long ((xs (i + 2)).toInt64 <<< ((32 : Int32).toInt64 &&& 63)), .int (xs (i + 1)), .ref 1000]) (yd (j := 1000) (ins := .iadd) (len := 1) rfl rfl) rfl ?_
  rw [e_3]
  refine zGo_xs (yd (j := 1000) (ins := .iaload) (len := 1) rfl rfl) h_3 ?_
  rw [n_3]
  refine zGo_s (pc' := 277) (st' := [.long (xs (i + 3)).toInt64, .long ((xs (i + 2)).toInt64 <<< ((32 : Int32).toInt64 &&& 63)), .int (xs (i + 1)), .ref 1000]) (yd (j := 1000) (ins := .i2l) (len := 1) rfl rfl) rfl ?_
  refine zGo_s (pc' := 280) (st' := [.long 4294967295, .long (xs (i + 3)).toInt64, .long ((xs (i + 2)).toInt64 <<< ((32 : Int32).toInt64 &&& 63)), .int (xs (i + 1)), .ref 1000]) (yd (j := 1000) (ins := .ldc2_w 13) (len := 3) rfl rfl) rfl ?_
  refine zGo_s (pc' := 281) (st' := [.long ((xs (i + 3)).toInt64 &&& 4294967295), .long ((xs (i + 2)).toInt64 <<< ((32 : Int32).toInt64 &&& 63)), .int (xs (i + 1)), .ref 1000]) (yd (j := 1000) (ins := .land) (len := 1) rfl rfl) rfl ?_
  refine zGo_s (pc' := 282) (st' := [.long (zlong (xs (i + 2)) (xs (i + 3))), .int (xs (i + 1)), .ref 1000]) (yd (j := 1000) (ins := .lor) (len := 1) rfl rfl) rfl ?_
  refine zGo_call (d := 2047) (as := [.ref 1000, .int (xs (i + 1)), .long (zlong (xs (i + 2)) (xs (i + 3)))]) (rest := []) (rv := some (.int v)) (q' := (11, yX11_find, cX11_find, 4, some .int, 2, 0)) (yd (j := 1000) (ins := .invokevirtual 34) (len := 3) rfl rfl) rfl rfl (show zcV (11, yX11_find, cX11_find, 4, some .int, 2, 0) [.long (zlong (xs (i + 2)) (xs (i + 3))), .int (xs (i + 1)), .ref 1000] hp = some ((11, yX11_find, cX11_find, 4, some .int, 2, 0), [.ref 1000, .int (xs (i + 1)), .long (zlong (xs (i + 2)) (xs (i + 3)))], []) from zcV_ok (b := 1000) (As := [.int (xs (i + 1)), .long (zlong (xs (i + 2)) (xs (i + 3)))]) rfl hrx rfl rfl rfl) hx ?_
  refine zGo_s (pc' := 286) (st' := [.ref 1132, .int v]) (yd (j := 1000) (ins := .aload_n 2) (len := 1) rfl rfl) rfl ?_
  refine zGo_s (pc' := 287) (st' := [.ref 62, .ref 1132, .int v]) (yd (j := 1000) (ins := .aload_n 0) (len := 1) rfl rfl) rfl ?_
  refine zGo_s (pc' := 288) (st' := [.int (nI i), .ref 62, .ref 1132, .int v]) (yd (j := 1000) (ins := .iload_n 3) (len := 1) rfl rfl) rfl ?_
  refine zGo_s (pc' := 289) (st' := [.int 1, .int (nI i), .ref 62, .ref 1132, .int v]) (yd (j := 1000) (ins := .iconst 1) (len := 1) rfl rfl) rfl ?_
  refine zGo_s (pc' := 290) (st' := [.int (nI i + 1), .ref 62, .ref 1132, .int v]) (yd (j := 1000) (ins := .iadd) (len := 1) rfl rfl) rfl ?_
  rw [e_1]
  refine zGo_xs (yd (j := 1000) (ins := .iaload) (len := 1) rfl rfl) h_1 ?_
  rw [n_1]
  refine zGo_s (pc' := 292) (st' := [.ref 62, .int (xs (i + 1)), .ref 1132, .int v]) (yd (j := 1000) (ins := .aload_n 0) (len := 1) rfl rfl) rfl ?_
  refine zGo_s (pc' := 293) (st' := [.int (nI i), .ref 62, .int (xs (i + 1)), .ref 1132, .int v]) (yd (j := 1000) (ins := .iload_n 3) (len := 1) rfl rfl) rfl ?_
  refine zGo_s (pc' := 294) (st' := [.int 2, .int (nI i), .ref 62, .int (xs (i + 1)), .ref 1132, .int v]) (yd (j := 1000) (ins := .iconst 2) (len := 1) rfl rfl) rfl ?_
  refine zGo_s (pc' := 295) (st' := [.int (nI i + 2), .ref 62, .int (xs (i + 1)), .ref 1132, .int v]) (yd (j := 1000) (ins := .iadd) (len := 1) rfl rfl) rfl ?_
  rw [e_2]
  refine zGo_xs (yd (j := 1000) (ins := .iaload) (len := 1) rfl rfl) h_2 ?_
  rw [n_2]
  refine zGo_s (pc' := 297) (st' := [.long (xs (i + 2)).toInt64, .int (xs (i + 1)), .ref 1132, .int v]) (yd (j := 1000) (ins := .i2l) (len := 1) rfl rfl) rfl ?_
  refine zGo_s (pc' := 299) (st' := [.int 32, .long (xs (i + 2)).toInt64, .int (xs (i + 1)), .ref 1132, .int v]) (yd (j := 1000) (ins := .bipush 32) (len := 2) rfl rfl) rfl ?_
  refine zGo_s (pc' := 300) (st' := [.long ((xs (i + 2)).toInt64 <<< ((32 : Int32).toInt64 &&& 63)), .int (xs (i + 1)), .ref 1132, .int v]) (yd (j := 1000) (ins := .lshl) (len := 1) rfl rfl) rfl ?_
  refine zGo_s (pc' := 301) (st' := [.ref 62, .long ((xs (i + 2)).toInt64 <<< ((32 : Int32).toInt64 &&& 63)), .int (xs (i + 1)), .ref 1132, .int v]) (yd (j := 1000) (ins := .aload_n 0) (len := 1) rfl rfl) rfl ?_
  refine zGo_s (pc' := 302) (st' := [.int (nI i), .ref 62, .long ((xs (i + 2)).toInt64 <<< ((32 : Int32).toInt64 &&& 63)), .int (xs (i + 1)), .ref 1132, .int v]) (yd (j := 1000) (ins := .iload_n 3) (len := 1) rfl rfl) rfl ?_
  refine zGo_s (pc' := 303) (st' := [.int 3, .int (nI i), .ref 62, .long ((xs (i + 2)).toInt64 <<< ((32 : Int32).toInt64 &&& 63)), .int (xs (i + 1)), .ref 1132, .int v]) (yd (j := 1000) (ins := .iconst 3) (len := 1) rfl rfl) rfl ?_
  refine zGo_s (pc' := 304) (st' := [.int (nI i + 3), .ref 62, .long ((xs (i + 2)).toInt64 <<< ((32 : Int32).toInt64 &&& 63)), .int (xs (i + 1)), .ref 1132, .int v]) (yd (j := 1000) (ins := .iadd) (len := 1) rfl rfl) rfl ?_
  rw [e_3]
  refine zGo_xs (yd (j := 1000) (ins := .iaload) (len := 1) rfl rfl) h_3 ?_
  rw [n_3]
  refine zGo_s (pc' := 306) (st' := [.long (xs (i + 3)).toInt64, .long ((xs (i + 2)).toInt64 <<< ((32 : Int32).toInt64 &&& 63)), .int (xs (i + 1)), .ref 1132, .int v]) (yd (j := 1000) (ins := .i2l) (len := 1) rfl rfl) rfl ?_
  refine zGo_s (pc' := 309) (st' := [.long 4294967295, .long (xs (i + 3)).toInt64, .long ((xs (i + 2)).toInt64 <<< ((32 : Int32).toInt64 &&& 63)), .int (xs (i + 1)), .ref 1132, .int v]) (yd (j := 1000) (ins := .ldc2_w 13) (len := 3) rfl rfl) rfl ?_
  refine zGo_s (pc' := 310) (st' := [.long ((xs (i + 3)).toInt64 &&& 4294967295), .long ((xs (i + 2)).toInt64 <<< ((32 : Int32).toInt64 &&& 63)), .int (xs (i + 1)), .ref 1132, .int v]) (yd (j := 1000) (ins := .land) (len := 1) rfl rfl) rfl ?_
  refine zGo_s (pc' := 311) (st' := [.long (zlong (xs (i + 2)) (xs (i + 3))), .int (xs (i + 1)), .ref 1132, .int v]) (yd (j := 1000) (ins := .lor) (len := 1) rfl rfl) rfl ?_
  refine zGo_call (d := 2047) (as := [.ref 1132, .int (xs (i + 1)), .long (zlong (xs (i + 2)) (xs (i + 3)))]) (rest := [.int v]) (rv := some (.int v)) (q' := (13, yX13_find, cX13_find, 5, some .int, 2, 0)) (yd (j := 1000) (ins := .invokevirtual 38) (len := 3) rfl rfl) rfl rfl (show zcV (13, yX13_find, cX13_find, 5, some .int, 2, 0) [.long (zlong (xs (i + 2)) (xs (i + 3))), .int (xs (i + 1)), .ref 1132, .int v] hp1 = some ((13, yX13_find, cX13_find, 5, some .int, 2, 0), [.ref 1132, .int (xs (i + 1)), .long (zlong (xs (i + 2)) (xs (i + 3)))], [.int v]) from zcV_ok (b := 1132) (As := [.int (xs (i + 1)), .long (zlong (xs (i + 2)) (xs (i + 3)))]) rfl hrm rfl rfl rfl) hm ?_
  refine zGo_icmp (t := 866) (yd (j := 1000) (ins := .if_icmp .eq 552) (len := 3) rfl rfl) rfl (fun _ => ?_) (fun h9 => absurd rfl (of_decide_eq_false h9))
  exact h
set_option maxRecDepth 40000 in
set_option maxHeartbeats 4000000 in
theorem law_processors {fz : Bool} {L : Nat} {xs : Nat → Int32} {i c z c1 z1 c2 z2 : Nat} {hp hp1 hp2 : List PE} {v : Int32} {r : zR} (hi : i + 3 < L) (hL : L < 2 ^ 30) (hrx : zrcv 11 hp 1000 = true) (hrm : zrcv 13 hp1 1132 = true) (hx : zGo (zX fz L xs) 2047 (11, yX11_processors, cX11_processors, 3, some .int, 1, 0) (0, lv_args 0 [.ref 1000, .int (xs (i + 1))], [], hp, 0, 0) (some (.int v), hp1, c1, z1)) (hm : zGo (zX fz L xs) 2047 (13, yX13_processors, cX13_processors, 3, some .int, 1, 0) (0, lv_args 0 [.ref 1132, .int (xs (i + 1))], [], hp1, 0, 0) (some (.int v), hp2, c2, z2)) (h : zGo (zX fz L xs) 2048 zLaw (866, [(0, .ref 62), (1, .ref 1000), (2, .ref 1132), (3, .int (nI i))], [], hp2, c + c1 + c2, z + z1 + z2) r) : zGo (zX fz L xs) 2048 zLaw (319, [(0, .ref 62), (1, .ref 1000), (2, .ref 1132), (3, .int (nI i))], [], hp, c, z) r := by
  have e_1 : nI i + 1 = nI (i + 1) := nI_add i 1
  have h_1 : zin? (nI (i + 1)) L = true := zin?_nI (by omega) (by omega)
  have n_1 : (nI (i + 1)).toNatClampNeg = i + 1 := nI_clamp (by omega)
  have e_2 : nI i + 2 = nI (i + 2) := nI_add i 2
  have h_2 : zin? (nI (i + 2)) L = true := zin?_nI (by omega) (by omega)
  have n_2 : (nI (i + 2)).toNatClampNeg = i + 2 := nI_clamp (by omega)
  have e_3 : nI i + 3 = nI (i + 3) := nI_add i 3
  have h_3 : zin? (nI (i + 3)) L = true := zin?_nI (by omega) (by omega)
  have n_3 : (nI (i + 3)).toNatClampNeg = i + 3 := nI_clamp (by omega)
  refine zGo_s (pc' := 320) (st' := [.ref 1000]) (yd (j := 1000) (ins := .aload_n 1) (len := 1) rfl rfl) rfl ?_
  refine zGo_s (pc' := 321) (st' := [.ref 62, .ref 1000]) (yd (j := 1000) (ins := .aload_n 0) (len := 1) rfl rfl) rfl ?_
  refine zGo_s (pc' := 322) (st' := [.int (nI i), .ref 62, .ref 1000]) (yd (j := 1000) (ins := .iload_n 3) (len := 1) rfl rfl) rfl ?_
  refine zGo_s (pc' := 323) (st' := [.int 1, .int (nI i), .ref 62, .ref 1000]) (yd (j := 1000) (ins := .iconst 1) (len := 1) rfl rfl) rfl ?_
  refine zGo_s (pc' := 324) (st' := [.int (nI i + 1), .ref 62, .ref 1000]) (yd (j := 1000) (ins := .iadd) (len := 1) rfl rfl) rfl ?_
  rw [e_1]
  refine zGo_xs (yd (j := 1000) (ins := .iaload) (len := 1) rfl rfl) h_1 ?_
  rw [n_1]
  refine zGo_call (d := 2047) (as := [.ref 1000, .int (xs (i + 1))]) (rest := []) (rv := some (.int v)) (q' := (11, yX11_processors, cX11_processors, 3, some .int, 1, 0)) (yd (j := 1000) (ins := .invokevirtual 39) (len := 3) rfl rfl) rfl rfl (show zcV (11, yX11_processors, cX11_processors, 3, some .int, 1, 0) [.int (xs (i + 1)), .ref 1000] hp = some ((11, yX11_processors, cX11_processors, 3, some .int, 1, 0), [.ref 1000, .int (xs (i + 1))], []) from zcV_ok (b := 1000) (As := [.int (xs (i + 1))]) rfl hrx rfl rfl rfl) hx ?_
  refine zGo_s (pc' := 329) (st' := [.ref 1132, .int v]) (yd (j := 1000) (ins := .aload_n 2) (len := 1) rfl rfl) rfl ?_
  refine zGo_s (pc' := 330) (st' := [.ref 62, .ref 1132, .int v]) (yd (j := 1000) (ins := .aload_n 0) (len := 1) rfl rfl) rfl ?_
  refine zGo_s (pc' := 331) (st' := [.int (nI i), .ref 62, .ref 1132, .int v]) (yd (j := 1000) (ins := .iload_n 3) (len := 1) rfl rfl) rfl ?_
  refine zGo_s (pc' := 332) (st' := [.int 1, .int (nI i), .ref 62, .ref 1132, .int v]) (yd (j := 1000) (ins := .iconst 1) (len := 1) rfl rfl) rfl ?_
  refine zGo_s (pc' := 333) (st' := [.int (nI i + 1), .ref 62, .ref 1132, .int v]) (yd (j := 1000) (ins := .iadd) (len := 1) rfl rfl) rfl ?_
  rw [e_1]
  refine zGo_xs (yd (j := 1000) (ins := .iaload) (len := 1) rfl rfl) h_1 ?_
  rw [n_1]
  refine zGo_call (d := 2047) (as := [.ref 1132, .int (xs (i + 1))]) (rest := [.int v]) (rv := some (.int v)) (q' := (13, yX13_processors, cX13_processors, 3, some .int, 1, 0)) (yd (j := 1000) (ins := .invokevirtual 42) (len := 3) rfl rfl) rfl rfl (show zcV (13, yX13_processors, cX13_processors, 3, some .int, 1, 0) [.int (xs (i + 1)), .ref 1132, .int v] hp1 = some ((13, yX13_processors, cX13_processors, 3, some .int, 1, 0), [.ref 1132, .int (xs (i + 1))], [.int v]) from zcV_ok (b := 1132) (As := [.int (xs (i + 1))]) rfl hrm rfl rfl rfl) hm ?_
  refine zGo_icmp (t := 866) (yd (j := 1000) (ins := .if_icmp .eq 529) (len := 3) rfl rfl) rfl (fun _ => ?_) (fun h9 => absurd rfl (of_decide_eq_false h9))
  exact h
set_option maxRecDepth 40000 in
set_option maxHeartbeats 4000000 in
theorem law_begin {fz : Bool} {L : Nat} {xs : Nat → Int32} {i c z c1 z1 c2 z2 : Nat} {hp hp1 hp2 : List PE} {v : Int32} {r : zR} (hi : i + 3 < L) (hL : L < 2 ^ 30) (hrx : zrcv 11 hp 1000 = true) (hrm : zrcv 13 hp1 1132 = true) (hx : zGo (zX fz L xs) 2047 (11, yX11_begin, cX11_begin, 1, some .int, 0, 0) (0, lv_args 0 [.ref 1000], [], hp, 0, 0) (some (.int v), hp1, c1, z1)) (hm : zGo (zX fz L xs) 2047 (13, yX13_begin, cX13_begin, 2, some .int, 0, 0) (0, lv_args 0 [.ref 1132], [], hp1, 0, 0) (some (.int v), hp2, c2, z2)) (h : zGo (zX fz L xs) 2048 zLaw (866, [(0, .ref 62), (1, .ref 1000), (2, .ref 1132), (3, .int (nI i))], [], hp2, c + c1 + c2, z + z1 + z2) r) : zGo (zX fz L xs) 2048 zLaw (342, [(0, .ref 62), (1, .ref 1000), (2, .ref 1132), (3, .int (nI i))], [], hp, c, z) r := by
  have e_1 : nI i + 1 = nI (i + 1) := nI_add i 1
  have h_1 : zin? (nI (i + 1)) L = true := zin?_nI (by omega) (by omega)
  have n_1 : (nI (i + 1)).toNatClampNeg = i + 1 := nI_clamp (by omega)
  have e_2 : nI i + 2 = nI (i + 2) := nI_add i 2
  have h_2 : zin? (nI (i + 2)) L = true := zin?_nI (by omega) (by omega)
  have n_2 : (nI (i + 2)).toNatClampNeg = i + 2 := nI_clamp (by omega)
  have e_3 : nI i + 3 = nI (i + 3) := nI_add i 3
  have h_3 : zin? (nI (i + 3)) L = true := zin?_nI (by omega) (by omega)
  have n_3 : (nI (i + 3)).toNatClampNeg = i + 3 := nI_clamp (by omega)
  refine zGo_s (pc' := 343) (st' := [.ref 1000]) (yd (j := 1000) (ins := .aload_n 1) (len := 1) rfl rfl) rfl ?_
  refine zGo_call (d := 2047) (as := [.ref 1000]) (rest := []) (rv := some (.int v)) (q' := (11, yX11_begin, cX11_begin, 1, some .int, 0, 0)) (yd (j := 1000) (ins := .invokevirtual 43) (len := 3) rfl rfl) rfl rfl (show zcV (11, yX11_begin, cX11_begin, 1, some .int, 0, 0) [.ref 1000] hp = some ((11, yX11_begin, cX11_begin, 1, some .int, 0, 0), [.ref 1000], []) from zcV_ok (b := 1000) (As := []) rfl hrx rfl rfl rfl) hx ?_
  refine zGo_s (pc' := 347) (st' := [.ref 1132, .int v]) (yd (j := 1000) (ins := .aload_n 2) (len := 1) rfl rfl) rfl ?_
  refine zGo_call (d := 2047) (as := [.ref 1132]) (rest := [.int v]) (rv := some (.int v)) (q' := (13, yX13_begin, cX13_begin, 2, some .int, 0, 0)) (yd (j := 1000) (ins := .invokevirtual 46) (len := 3) rfl rfl) rfl rfl (show zcV (13, yX13_begin, cX13_begin, 2, some .int, 0, 0) [.ref 1132, .int v] hp1 = some ((13, yX13_begin, cX13_begin, 2, some .int, 0, 0), [.ref 1132], [.int v]) from zcV_ok (b := 1132) (As := []) rfl hrm rfl rfl rfl) hm ?_
  refine zGo_icmp (t := 866) (yd (j := 1000) (ins := .if_icmp .eq 516) (len := 3) rfl rfl) rfl (fun _ => ?_) (fun h9 => absurd rfl (of_decide_eq_false h9))
  exact h
set_option maxRecDepth 40000 in
set_option maxHeartbeats 4000000 in
theorem law_run {fz : Bool} {L : Nat} {xs : Nat → Int32} {i c z c1 z1 c2 z2 : Nat} {hp hp1 hp2 : List PE} {v : Int32} {r : zR} (hi : i + 3 < L) (hL : L < 2 ^ 30) (hrx : zrcv 11 hp 1000 = true) (hrm : zrcv 13 hp1 1132 = true) (hx : zGo (zX fz L xs) 2047 (11, yX11_run, cX11_run, 4, some .int, 1, 0) (0, lv_args 0 [.ref 1000, .int (xs (i + 1))], [], hp, 0, 0) (some (.int v), hp1, c1, z1)) (hm : zGo (zX fz L xs) 2047 (13, yX13_run, cX13_run, 5, some .int, 1, 0) (0, lv_args 0 [.ref 1132, .int (xs (i + 1))], [], hp1, 0, 0) (some (.int v), hp2, c2, z2)) (h : zGo (zX fz L xs) 2048 zLaw (866, [(0, .ref 62), (1, .ref 1000), (2, .ref 1132), (3, .int (nI i))], [], hp2, c + c1 + c2, z + z1 + z2) r) : zGo (zX fz L xs) 2048 zLaw (355, [(0, .ref 62), (1, .ref 1000), (2, .ref 1132), (3, .int (nI i))], [], hp, c, z) r := by
  have e_1 : nI i + 1 = nI (i + 1) := nI_add i 1
  have h_1 : zin? (nI (i + 1)) L = true := zin?_nI (by omega) (by omega)
  have n_1 : (nI (i + 1)).toNatClampNeg = i + 1 := nI_clamp (by omega)
  have e_2 : nI i + 2 = nI (i + 2) := nI_add i 2
  have h_2 : zin? (nI (i + 2)) L = true := zin?_nI (by omega) (by omega)
  have n_2 : (nI (i + 2)).toNatClampNeg = i + 2 := nI_clamp (by omega)
  have e_3 : nI i + 3 = nI (i + 3) := nI_add i 3
  have h_3 : zin? (nI (i + 3)) L = true := zin?_nI (by omega) (by omega)
  have n_3 : (nI (i + 3)).toNatClampNeg = i + 3 := nI_clamp (by omega)
  refine zGo_s (pc' := 356) (st' := [.ref 1000]) (yd (j := 1000) (ins := .aload_n 1) (len := 1) rfl rfl) rfl ?_
  refine zGo_s (pc' := 357) (st' := [.ref 62, .ref 1000]) (yd (j := 1000) (ins := .aload_n 0) (len := 1) rfl rfl) rfl ?_
  refine zGo_s (pc' := 358) (st' := [.int (nI i), .ref 62, .ref 1000]) (yd (j := 1000) (ins := .iload_n 3) (len := 1) rfl rfl) rfl ?_
  refine zGo_s (pc' := 359) (st' := [.int 1, .int (nI i), .ref 62, .ref 1000]) (yd (j := 1000) (ins := .iconst 1) (len := 1) rfl rfl) rfl ?_
  refine zGo_s (pc' := 360) (st' := [.int (nI i + 1), .ref 62, .ref 1000]) (yd (j := 1000) (ins := .iadd) (len := 1) rfl rfl) rfl ?_
  rw [e_1]
  refine zGo_xs (yd (j := 1000) (ins := .iaload) (len := 1) rfl rfl) h_1 ?_
  rw [n_1]
  refine zGo_call (d := 2047) (as := [.ref 1000, .int (xs (i + 1))]) (rest := []) (rv := some (.int v)) (q' := (11, yX11_run, cX11_run, 4, some .int, 1, 0)) (yd (j := 1000) (ins := .invokevirtual 47) (len := 3) rfl rfl) rfl rfl (show zcV (11, yX11_run, cX11_run, 4, some .int, 1, 0) [.int (xs (i + 1)), .ref 1000] hp = some ((11, yX11_run, cX11_run, 4, some .int, 1, 0), [.ref 1000, .int (xs (i + 1))], []) from zcV_ok (b := 1000) (As := [.int (xs (i + 1))]) rfl hrx rfl rfl rfl) hx ?_
  refine zGo_s (pc' := 365) (st' := [.ref 1132, .int v]) (yd (j := 1000) (ins := .aload_n 2) (len := 1) rfl rfl) rfl ?_
  refine zGo_s (pc' := 366) (st' := [.ref 62, .ref 1132, .int v]) (yd (j := 1000) (ins := .aload_n 0) (len := 1) rfl rfl) rfl ?_
  refine zGo_s (pc' := 367) (st' := [.int (nI i), .ref 62, .ref 1132, .int v]) (yd (j := 1000) (ins := .iload_n 3) (len := 1) rfl rfl) rfl ?_
  refine zGo_s (pc' := 368) (st' := [.int 1, .int (nI i), .ref 62, .ref 1132, .int v]) (yd (j := 1000) (ins := .iconst 1) (len := 1) rfl rfl) rfl ?_
  refine zGo_s (pc' := 369) (st' := [.int (nI i + 1), .ref 62, .ref 1132, .int v]) (yd (j := 1000) (ins := .iadd) (len := 1) rfl rfl) rfl ?_
  rw [e_1]
  refine zGo_xs (yd (j := 1000) (ins := .iaload) (len := 1) rfl rfl) h_1 ?_
  rw [n_1]
  refine zGo_call (d := 2047) (as := [.ref 1132, .int (xs (i + 1))]) (rest := [.int v]) (rv := some (.int v)) (q' := (13, yX13_run, cX13_run, 5, some .int, 1, 0)) (yd (j := 1000) (ins := .invokevirtual 50) (len := 3) rfl rfl) rfl rfl (show zcV (13, yX13_run, cX13_run, 5, some .int, 1, 0) [.int (xs (i + 1)), .ref 1132, .int v] hp1 = some ((13, yX13_run, cX13_run, 5, some .int, 1, 0), [.ref 1132, .int (xs (i + 1))], [.int v]) from zcV_ok (b := 1132) (As := [.int (xs (i + 1))]) rfl hrm rfl rfl rfl) hm ?_
  refine zGo_icmp (t := 866) (yd (j := 1000) (ins := .if_icmp .eq 493) (len := 3) rfl rfl) rfl (fun _ => ?_) (fun h9 => absurd rfl (of_decide_eq_false h9))
  exact h
set_option maxRecDepth 40000 in
set_option maxHeartbeats 4000000 in
theorem law_trigger {fz : Bool} {L : Nat} {xs : Nat → Int32} {i c z c1 z1 c2 z2 : Nat} {hp hp1 hp2 : List PE} {v : Int32} {r : zR} (hi : i + 3 < L) (hL : L < 2 ^ 30) (hrx : zrcv 11 hp 1000 = true) (hrm : zrcv 13 hp1 1132 = true) (hx : zGo (zX fz L xs) 2047 (11, yX11_trigger, cX11_trigger, 2, some .int, 1, 0) (0, lv_args 0 [.ref 1000, .int (xs (i + 1))], [], hp, 0, 0) (some (.int v), hp1, c1, z1)) (hm : zGo (zX fz L xs) 2047 (13, yX13_trigger, cX13_trigger, 3, some .int, 1, 0) (0, lv_args 0 [.ref 1132, .int (xs (i + 1))], [], hp1, 0, 0) (some (.int v), hp2, c2, z2)) (h : zGo (zX fz L xs) 2048 zLaw (866, [(0, .ref 62), (1, .ref 1000), (2, .ref 1132), (3, .int (nI i))], [], hp2, c + c1 + c2, z + z1 + z2) r) : zGo (zX fz L xs) 2048 zLaw (378, [(0, .ref 62), (1, .ref 1000), (2, .ref 1132), (3, .int (nI i))], [], hp, c, z) r := by
  have e_1 : nI i + 1 = nI (i + 1) := nI_add i 1
  have h_1 : zin? (nI (i + 1)) L = true := zin?_nI (by omega) (by omega)
  have n_1 : (nI (i + 1)).toNatClampNeg = i + 1 := nI_clamp (by omega)
  have e_2 : nI i + 2 = nI (i + 2) := nI_add i 2
  have h_2 : zin? (nI (i + 2)) L = true := zin?_nI (by omega) (by omega)
  have n_2 : (nI (i + 2)).toNatClampNeg = i + 2 := nI_clamp (by omega)
  have e_3 : nI i + 3 = nI (i + 3) := nI_add i 3
  have h_3 : zin? (nI (i + 3)) L = true := zin?_nI (by omega) (by omega)
  have n_3 : (nI (i + 3)).toNatClampNeg = i + 3 := nI_clamp (by omega)
  refine zGo_s (pc' := 379) (st' := [.ref 1000]) (yd (j := 1000) (ins := .aload_n 1) (len := 1) rfl rfl) rfl ?_
  refine zGo_s (pc' := 380) (st' := [.ref 62, .ref 1000]) (yd (j := 1000) (ins := .aload_n 0) (len := 1) rfl rfl) rfl ?_
  refine zGo_s (pc' := 381) (st' := [.int (nI i), .ref 62, .ref 1000]) (yd (j := 1000) (ins := .iload_n 3) (len := 1) rfl rfl) rfl ?_
  refine zGo_s (pc' := 382) (st' := [.int 1, .int (nI i), .ref 62, .ref 1000]) (yd (j := 1000) (ins := .iconst 1) (len := 1) rfl rfl) rfl ?_
  refine zGo_s (pc' := 383) (st' := [.int (nI i + 1), .ref 62, .ref 1000]) (yd (j := 1000) (ins := .iadd) (len := 1) rfl rfl) rfl ?_
  rw [e_1]
  refine zGo_xs (yd (j := 1000) (ins := .iaload) (len := 1) rfl rfl) h_1 ?_
  rw [n_1]
  refine zGo_call (d := 2047) (as := [.ref 1000, .int (xs (i + 1))]) (rest := []) (rv := some (.int v)) (q' := (11, yX11_trigger, cX11_trigger, 2, some .int, 1, 0)) (yd (j := 1000) (ins := .invokevirtual 51) (len := 3) rfl rfl) rfl rfl (show zcV (11, yX11_trigger, cX11_trigger, 2, some .int, 1, 0) [.int (xs (i + 1)), .ref 1000] hp = some ((11, yX11_trigger, cX11_trigger, 2, some .int, 1, 0), [.ref 1000, .int (xs (i + 1))], []) from zcV_ok (b := 1000) (As := [.int (xs (i + 1))]) rfl hrx rfl rfl rfl) hx ?_
  refine zGo_s (pc' := 388) (st' := [.ref 1132, .int v]) (yd (j := 1000) (ins := .aload_n 2) (len := 1) rfl rfl) rfl ?_
  refine zGo_s (pc' := 389) (st' := [.ref 62, .ref 1132, .int v]) (yd (j := 1000) (ins := .aload_n 0) (len := 1) rfl rfl) rfl ?_
  refine zGo_s (pc' := 390) (st' := [.int (nI i), .ref 62, .ref 1132, .int v]) (yd (j := 1000) (ins := .iload_n 3) (len := 1) rfl rfl) rfl ?_
  refine zGo_s (pc' := 391) (st' := [.int 1, .int (nI i), .ref 62, .ref 1132, .int v]) (yd (j := 1000) (ins := .iconst 1) (len := 1) rfl rfl) rfl ?_
  refine zGo_s (pc' := 392) (st' := [.int (nI i + 1), .ref 62, .ref 1132, .int v]) (yd (j := 1000) (ins := .iadd) (len := 1) rfl rfl) rfl ?_
  rw [e_1]
  refine zGo_xs (yd (j := 1000) (ins := .iaload) (len := 1) rfl rfl) h_1 ?_
  rw [n_1]
  refine zGo_call (d := 2047) (as := [.ref 1132, .int (xs (i + 1))]) (rest := [.int v]) (rv := some (.int v)) (q' := (13, yX13_trigger, cX13_trigger, 3, some .int, 1, 0)) (yd (j := 1000) (ins := .invokevirtual 54) (len := 3) rfl rfl) rfl rfl (show zcV (13, yX13_trigger, cX13_trigger, 3, some .int, 1, 0) [.int (xs (i + 1)), .ref 1132, .int v] hp1 = some ((13, yX13_trigger, cX13_trigger, 3, some .int, 1, 0), [.ref 1132, .int (xs (i + 1))], [.int v]) from zcV_ok (b := 1132) (As := [.int (xs (i + 1))]) rfl hrm rfl rfl rfl) hm ?_
  refine zGo_icmp (t := 866) (yd (j := 1000) (ins := .if_icmp .eq 470) (len := 3) rfl rfl) rfl (fun _ => ?_) (fun h9 => absurd rfl (of_decide_eq_false h9))
  exact h
set_option maxRecDepth 40000 in
set_option maxHeartbeats 4000000 in
theorem law_send {fz : Bool} {L : Nat} {xs : Nat → Int32} {i c z c1 z1 c2 z2 : Nat} {hp hp1 hp2 : List PE} {v : Int32} {r : zR} (hi : i + 3 < L) (hL : L < 2 ^ 30) (hrx : zrcv 11 hp 1000 = true) (hrm : zrcv 13 hp1 1132 = true) (hx : zGo (zX fz L xs) 2047 (11, yX11_send, cX11_send, 3, some .int, 2, 0) (0, lv_args 0 [.ref 1000, .int (xs (i + 1)), .int (xs (i + 2))], [], hp, 0, 0) (some (.int v), hp1, c1, z1)) (hm : zGo (zX fz L xs) 2047 (13, yX13_send, cX13_send, 3, some .int, 2, 0) (0, lv_args 0 [.ref 1132, .int (xs (i + 1)), .int (xs (i + 2))], [], hp1, 0, 0) (some (.int v), hp2, c2, z2)) (h : zGo (zX fz L xs) 2048 zLaw (866, [(0, .ref 62), (1, .ref 1000), (2, .ref 1132), (3, .int (nI i))], [], hp2, c + c1 + c2, z + z1 + z2) r) : zGo (zX fz L xs) 2048 zLaw (401, [(0, .ref 62), (1, .ref 1000), (2, .ref 1132), (3, .int (nI i))], [], hp, c, z) r := by
  have e_1 : nI i + 1 = nI (i + 1) := nI_add i 1
  have h_1 : zin? (nI (i + 1)) L = true := zin?_nI (by omega) (by omega)
  have n_1 : (nI (i + 1)).toNatClampNeg = i + 1 := nI_clamp (by omega)
  have e_2 : nI i + 2 = nI (i + 2) := nI_add i 2
  have h_2 : zin? (nI (i + 2)) L = true := zin?_nI (by omega) (by omega)
  have n_2 : (nI (i + 2)).toNatClampNeg = i + 2 := nI_clamp (by omega)
  have e_3 : nI i + 3 = nI (i + 3) := nI_add i 3
  have h_3 : zin? (nI (i + 3)) L = true := zin?_nI (by omega) (by omega)
  have n_3 : (nI (i + 3)).toNatClampNeg = i + 3 := nI_clamp (by omega)
  refine zGo_s (pc' := 402) (st' := [.ref 1000]) (yd (j := 1000) (ins := .aload_n 1) (len := 1) rfl rfl) rfl ?_
  refine zGo_s (pc' := 403) (st' := [.ref 62, .ref 1000]) (yd (j := 1000) (ins := .aload_n 0) (len := 1) rfl rfl) rfl ?_
  refine zGo_s (pc' := 404) (st' := [.int (nI i), .ref 62, .ref 1000]) (yd (j := 1000) (ins := .iload_n 3) (len := 1) rfl rfl) rfl ?_
  refine zGo_s (pc' := 405) (st' := [.int 1, .int (nI i), .ref 62, .ref 1000]) (yd (j := 1000) (ins := .iconst 1) (len := 1) rfl rfl) rfl ?_
  refine zGo_s (pc' := 406) (st' := [.int (nI i + 1), .ref 62, .ref 1000]) (yd (j := 1000) (ins := .iadd) (len := 1) rfl rfl) rfl ?_
  rw [e_1]
  refine zGo_xs (yd (j := 1000) (ins := .iaload) (len := 1) rfl rfl) h_1 ?_
  rw [n_1]
  refine zGo_s (pc' := 408) (st' := [.ref 62, .int (xs (i + 1)), .ref 1000]) (yd (j := 1000) (ins := .aload_n 0) (len := 1) rfl rfl) rfl ?_
  refine zGo_s (pc' := 409) (st' := [.int (nI i), .ref 62, .int (xs (i + 1)), .ref 1000]) (yd (j := 1000) (ins := .iload_n 3) (len := 1) rfl rfl) rfl ?_
  refine zGo_s (pc' := 410) (st' := [.int 2, .int (nI i), .ref 62, .int (xs (i + 1)), .ref 1000]) (yd (j := 1000) (ins := .iconst 2) (len := 1) rfl rfl) rfl ?_
  refine zGo_s (pc' := 411) (st' := [.int (nI i + 2), .ref 62, .int (xs (i + 1)), .ref 1000]) (yd (j := 1000) (ins := .iadd) (len := 1) rfl rfl) rfl ?_
  rw [e_2]
  refine zGo_xs (yd (j := 1000) (ins := .iaload) (len := 1) rfl rfl) h_2 ?_
  rw [n_2]
  refine zGo_call (d := 2047) (as := [.ref 1000, .int (xs (i + 1)), .int (xs (i + 2))]) (rest := []) (rv := some (.int v)) (q' := (11, yX11_send, cX11_send, 3, some .int, 2, 0)) (yd (j := 1000) (ins := .invokevirtual 55) (len := 3) rfl rfl) rfl rfl (show zcV (11, yX11_send, cX11_send, 3, some .int, 2, 0) [.int (xs (i + 2)), .int (xs (i + 1)), .ref 1000] hp = some ((11, yX11_send, cX11_send, 3, some .int, 2, 0), [.ref 1000, .int (xs (i + 1)), .int (xs (i + 2))], []) from zcV_ok (b := 1000) (As := [.int (xs (i + 1)), .int (xs (i + 2))]) rfl hrx rfl rfl rfl) hx ?_
  refine zGo_s (pc' := 416) (st' := [.ref 1132, .int v]) (yd (j := 1000) (ins := .aload_n 2) (len := 1) rfl rfl) rfl ?_
  refine zGo_s (pc' := 417) (st' := [.ref 62, .ref 1132, .int v]) (yd (j := 1000) (ins := .aload_n 0) (len := 1) rfl rfl) rfl ?_
  refine zGo_s (pc' := 418) (st' := [.int (nI i), .ref 62, .ref 1132, .int v]) (yd (j := 1000) (ins := .iload_n 3) (len := 1) rfl rfl) rfl ?_
  refine zGo_s (pc' := 419) (st' := [.int 1, .int (nI i), .ref 62, .ref 1132, .int v]) (yd (j := 1000) (ins := .iconst 1) (len := 1) rfl rfl) rfl ?_
  refine zGo_s (pc' := 420) (st' := [.int (nI i + 1), .ref 62, .ref 1132, .int v]) (yd (j := 1000) (ins := .iadd) (len := 1) rfl rfl) rfl ?_
  rw [e_1]
  refine zGo_xs (yd (j := 1000) (ins := .iaload) (len := 1) rfl rfl) h_1 ?_
  rw [n_1]
  refine zGo_s (pc' := 422) (st' := [.ref 62, .int (xs (i + 1)), .ref 1132, .int v]) (yd (j := 1000) (ins := .aload_n 0) (len := 1) rfl rfl) rfl ?_
  refine zGo_s (pc' := 423) (st' := [.int (nI i), .ref 62, .int (xs (i + 1)), .ref 1132, .int v]) (yd (j := 1000) (ins := .iload_n 3) (len := 1) rfl rfl) rfl ?_
  refine zGo_s (pc' := 424) (st' := [.int 2, .int (nI i), .ref 62, .int (xs (i + 1)), .ref 1132, .int v]) (yd (j := 1000) (ins := .iconst 2) (len := 1) rfl rfl) rfl ?_
  refine zGo_s (pc' := 425) (st' := [.int (nI i + 2), .ref 62, .int (xs (i + 1)), .ref 1132, .int v]) (yd (j := 1000) (ins := .iadd) (len := 1) rfl rfl) rfl ?_
  rw [e_2]
  refine zGo_xs (yd (j := 1000) (ins := .iaload) (len := 1) rfl rfl) h_2 ?_
  rw [n_2]
  refine zGo_call (d := 2047) (as := [.ref 1132, .int (xs (i + 1)), .int (xs (i + 2))]) (rest := [.int v]) (rv := some (.int v)) (q' := (13, yX13_send, cX13_send, 3, some .int, 2, 0)) (yd (j := 1000) (ins := .invokevirtual 59) (len := 3) rfl rfl) rfl rfl (show zcV (13, yX13_send, cX13_send, 3, some .int, 2, 0) [.int (xs (i + 2)), .int (xs (i + 1)), .ref 1132, .int v] hp1 = some ((13, yX13_send, cX13_send, 3, some .int, 2, 0), [.ref 1132, .int (xs (i + 1)), .int (xs (i + 2))], [.int v]) from zcV_ok (b := 1132) (As := [.int (xs (i + 1)), .int (xs (i + 2))]) rfl hrm rfl rfl rfl) hm ?_
  refine zGo_icmp (t := 866) (yd (j := 1000) (ins := .if_icmp .eq 437) (len := 3) rfl rfl) rfl (fun _ => ?_) (fun h9 => absurd rfl (of_decide_eq_false h9))
  exact h
set_option maxRecDepth 40000 in
set_option maxHeartbeats 4000000 in
theorem law_task {fz : Bool} {L : Nat} {xs : Nat → Int32} {i c z c1 z1 c2 z2 : Nat} {hp hp1 hp2 : List PE} {v : Int32} {r : zR} (hi : i + 3 < L) (hL : L < 2 ^ 30) (hrx : zrcv 11 hp 1000 = true) (hrm : zrcv 13 hp1 1132 = true) (hx : zGo (zX fz L xs) 2047 (11, yX11_task, cX11_task, 3, some .int, 2, 0) (0, lv_args 0 [.ref 1000, .int (xs (i + 1)), .int (xs (i + 2))], [], hp, 0, 0) (some (.int v), hp1, c1, z1)) (hm : zGo (zX fz L xs) 2047 (13, yX13_task, cX13_task, 3, some .int, 2, 0) (0, lv_args 0 [.ref 1132, .int (xs (i + 1)), .int (xs (i + 2))], [], hp1, 0, 0) (some (.int v), hp2, c2, z2)) (h : zGo (zX fz L xs) 2048 zLaw (866, [(0, .ref 62), (1, .ref 1000), (2, .ref 1132), (3, .int (nI i))], [], hp2, c + c1 + c2, z + z1 + z2) r) : zGo (zX fz L xs) 2048 zLaw (434, [(0, .ref 62), (1, .ref 1000), (2, .ref 1132), (3, .int (nI i))], [], hp, c, z) r := by
  have e_1 : nI i + 1 = nI (i + 1) := nI_add i 1
  have h_1 : zin? (nI (i + 1)) L = true := zin?_nI (by omega) (by omega)
  have n_1 : (nI (i + 1)).toNatClampNeg = i + 1 := nI_clamp (by omega)
  have e_2 : nI i + 2 = nI (i + 2) := nI_add i 2
  have h_2 : zin? (nI (i + 2)) L = true := zin?_nI (by omega) (by omega)
  have n_2 : (nI (i + 2)).toNatClampNeg = i + 2 := nI_clamp (by omega)
  have e_3 : nI i + 3 = nI (i + 3) := nI_add i 3
  have h_3 : zin? (nI (i + 3)) L = true := zin?_nI (by omega) (by omega)
  have n_3 : (nI (i + 3)).toNatClampNeg = i + 3 := nI_clamp (by omega)
  refine zGo_s (pc' := 435) (st' := [.ref 1000]) (yd (j := 1000) (ins := .aload_n 1) (len := 1) rfl rfl) rfl ?_
  refine zGo_s (pc' := 436) (st' := [.ref 62, .ref 1000]) (yd (j := 1000) (ins := .aload_n 0) (len := 1) rfl rfl) rfl ?_
  refine zGo_s (pc' := 437) (st' := [.int (nI i), .ref 62, .ref 1000]) (yd (j := 1000) (ins := .iload_n 3) (len := 1) rfl rfl) rfl ?_
  refine zGo_s (pc' := 438) (st' := [.int 1, .int (nI i), .ref 62, .ref 1000]) (yd (j := 1000) (ins := .iconst 1) (len := 1) rfl rfl) rfl ?_
  refine zGo_s (pc' := 439) (st' := [.int (nI i + 1), .ref 62, .ref 1000]) (yd (j := 1000) (ins := .iadd) (len := 1) rfl rfl) rfl ?_
  rw [e_1]
  refine zGo_xs (yd (j := 1000) (ins := .iaload) (len := 1) rfl rfl) h_1 ?_
  rw [n_1]
  refine zGo_s (pc' := 441) (st' := [.ref 62, .int (xs (i + 1)), .ref 1000]) (yd (j := 1000) (ins := .aload_n 0) (len := 1) rfl rfl) rfl ?_
  refine zGo_s (pc' := 442) (st' := [.int (nI i), .ref 62, .int (xs (i + 1)), .ref 1000]) (yd (j := 1000) (ins := .iload_n 3) (len := 1) rfl rfl) rfl ?_
  refine zGo_s (pc' := 443) (st' := [.int 2, .int (nI i), .ref 62, .int (xs (i + 1)), .ref 1000]) (yd (j := 1000) (ins := .iconst 2) (len := 1) rfl rfl) rfl ?_
  refine zGo_s (pc' := 444) (st' := [.int (nI i + 2), .ref 62, .int (xs (i + 1)), .ref 1000]) (yd (j := 1000) (ins := .iadd) (len := 1) rfl rfl) rfl ?_
  rw [e_2]
  refine zGo_xs (yd (j := 1000) (ins := .iaload) (len := 1) rfl rfl) h_2 ?_
  rw [n_2]
  refine zGo_call (d := 2047) (as := [.ref 1000, .int (xs (i + 1)), .int (xs (i + 2))]) (rest := []) (rv := some (.int v)) (q' := (11, yX11_task, cX11_task, 3, some .int, 2, 0)) (yd (j := 1000) (ins := .invokevirtual 60) (len := 3) rfl rfl) rfl rfl (show zcV (11, yX11_task, cX11_task, 3, some .int, 2, 0) [.int (xs (i + 2)), .int (xs (i + 1)), .ref 1000] hp = some ((11, yX11_task, cX11_task, 3, some .int, 2, 0), [.ref 1000, .int (xs (i + 1)), .int (xs (i + 2))], []) from zcV_ok (b := 1000) (As := [.int (xs (i + 1)), .int (xs (i + 2))]) rfl hrx rfl rfl rfl) hx ?_
  refine zGo_s (pc' := 449) (st' := [.ref 1132, .int v]) (yd (j := 1000) (ins := .aload_n 2) (len := 1) rfl rfl) rfl ?_
  refine zGo_s (pc' := 450) (st' := [.ref 62, .ref 1132, .int v]) (yd (j := 1000) (ins := .aload_n 0) (len := 1) rfl rfl) rfl ?_
  refine zGo_s (pc' := 451) (st' := [.int (nI i), .ref 62, .ref 1132, .int v]) (yd (j := 1000) (ins := .iload_n 3) (len := 1) rfl rfl) rfl ?_
  refine zGo_s (pc' := 452) (st' := [.int 1, .int (nI i), .ref 62, .ref 1132, .int v]) (yd (j := 1000) (ins := .iconst 1) (len := 1) rfl rfl) rfl ?_
  refine zGo_s (pc' := 453) (st' := [.int (nI i + 1), .ref 62, .ref 1132, .int v]) (yd (j := 1000) (ins := .iadd) (len := 1) rfl rfl) rfl ?_
  rw [e_1]
  refine zGo_xs (yd (j := 1000) (ins := .iaload) (len := 1) rfl rfl) h_1 ?_
  rw [n_1]
  refine zGo_s (pc' := 455) (st' := [.ref 62, .int (xs (i + 1)), .ref 1132, .int v]) (yd (j := 1000) (ins := .aload_n 0) (len := 1) rfl rfl) rfl ?_
  refine zGo_s (pc' := 456) (st' := [.int (nI i), .ref 62, .int (xs (i + 1)), .ref 1132, .int v]) (yd (j := 1000) (ins := .iload_n 3) (len := 1) rfl rfl) rfl ?_
  refine zGo_s (pc' := 457) (st' := [.int 2, .int (nI i), .ref 62, .int (xs (i + 1)), .ref 1132, .int v]) (yd (j := 1000) (ins := .iconst 2) (len := 1) rfl rfl) rfl ?_
  refine zGo_s (pc' := 458) (st' := [.int (nI i + 2), .ref 62, .int (xs (i + 1)), .ref 1132, .int v]) (yd (j := 1000) (ins := .iadd) (len := 1) rfl rfl) rfl ?_
  rw [e_2]
  refine zGo_xs (yd (j := 1000) (ins := .iaload) (len := 1) rfl rfl) h_2 ?_
  rw [n_2]
  refine zGo_call (d := 2047) (as := [.ref 1132, .int (xs (i + 1)), .int (xs (i + 2))]) (rest := [.int v]) (rv := some (.int v)) (q' := (13, yX13_task, cX13_task, 3, some .int, 2, 0)) (yd (j := 1000) (ins := .invokevirtual 63) (len := 3) rfl rfl) rfl rfl (show zcV (13, yX13_task, cX13_task, 3, some .int, 2, 0) [.int (xs (i + 2)), .int (xs (i + 1)), .ref 1132, .int v] hp1 = some ((13, yX13_task, cX13_task, 3, some .int, 2, 0), [.ref 1132, .int (xs (i + 1)), .int (xs (i + 2))], [.int v]) from zcV_ok (b := 1132) (As := [.int (xs (i + 1)), .int (xs (i + 2))]) rfl hrm rfl rfl rfl) hm ?_
  refine zGo_icmp (t := 866) (yd (j := 1000) (ins := .if_icmp .eq 404) (len := 3) rfl rfl) rfl (fun _ => ?_) (fun h9 => absurd rfl (of_decide_eq_false h9))
  exact h
set_option maxRecDepth 40000 in
set_option maxHeartbeats 4000000 in
theorem law_value {fz : Bool} {L : Nat} {xs : Nat → Int32} {i c z c1 z1 c2 z2 : Nat} {hp hp1 hp2 : List PE} {v : Int32} {r : zR} (hi : i + 3 < L) (hL : L < 2 ^ 30) (hrx : zrcv 11 hp 1000 = true) (hrm : zrcv 13 hp1 1132 = true) (hx : zGo (zX fz L xs) 2047 (11, yX11_value, cX11_value, 2, some .int, 1, 0) (0, lv_args 0 [.ref 1000, .int (xs (i + 1))], [], hp, 0, 0) (some (.int v), hp1, c1, z1)) (hm : zGo (zX fz L xs) 2047 (13, yX13_value, cX13_value, 2, some .int, 1, 0) (0, lv_args 0 [.ref 1132, .int (xs (i + 1))], [], hp1, 0, 0) (some (.int v), hp2, c2, z2)) (h : zGo (zX fz L xs) 2048 zLaw (866, [(0, .ref 62), (1, .ref 1000), (2, .ref 1132), (3, .int (nI i))], [], hp2, c + c1 + c2, z + z1 + z2) r) : zGo (zX fz L xs) 2048 zLaw (467, [(0, .ref 62), (1, .ref 1000), (2, .ref 1132), (3, .int (nI i))], [], hp, c, z) r := by
  have e_1 : nI i + 1 = nI (i + 1) := nI_add i 1
  have h_1 : zin? (nI (i + 1)) L = true := zin?_nI (by omega) (by omega)
  have n_1 : (nI (i + 1)).toNatClampNeg = i + 1 := nI_clamp (by omega)
  have e_2 : nI i + 2 = nI (i + 2) := nI_add i 2
  have h_2 : zin? (nI (i + 2)) L = true := zin?_nI (by omega) (by omega)
  have n_2 : (nI (i + 2)).toNatClampNeg = i + 2 := nI_clamp (by omega)
  have e_3 : nI i + 3 = nI (i + 3) := nI_add i 3
  have h_3 : zin? (nI (i + 3)) L = true := zin?_nI (by omega) (by omega)
  have n_3 : (nI (i + 3)).toNatClampNeg = i + 3 := nI_clamp (by omega)
  refine zGo_s (pc' := 468) (st' := [.ref 1000]) (yd (j := 1000) (ins := .aload_n 1) (len := 1) rfl rfl) rfl ?_
  refine zGo_s (pc' := 469) (st' := [.ref 62, .ref 1000]) (yd (j := 1000) (ins := .aload_n 0) (len := 1) rfl rfl) rfl ?_
  refine zGo_s (pc' := 470) (st' := [.int (nI i), .ref 62, .ref 1000]) (yd (j := 1000) (ins := .iload_n 3) (len := 1) rfl rfl) rfl ?_
  refine zGo_s (pc' := 471) (st' := [.int 1, .int (nI i), .ref 62, .ref 1000]) (yd (j := 1000) (ins := .iconst 1) (len := 1) rfl rfl) rfl ?_
  refine zGo_s (pc' := 472) (st' := [.int (nI i + 1), .ref 62, .ref 1000]) (yd (j := 1000) (ins := .iadd) (len := 1) rfl rfl) rfl ?_
  rw [e_1]
  refine zGo_xs (yd (j := 1000) (ins := .iaload) (len := 1) rfl rfl) h_1 ?_
  rw [n_1]
  refine zGo_call (d := 2047) (as := [.ref 1000, .int (xs (i + 1))]) (rest := []) (rv := some (.int v)) (q' := (11, yX11_value, cX11_value, 2, some .int, 1, 0)) (yd (j := 1000) (ins := .invokevirtual 64) (len := 3) rfl rfl) rfl rfl (show zcV (11, yX11_value, cX11_value, 2, some .int, 1, 0) [.int (xs (i + 1)), .ref 1000] hp = some ((11, yX11_value, cX11_value, 2, some .int, 1, 0), [.ref 1000, .int (xs (i + 1))], []) from zcV_ok (b := 1000) (As := [.int (xs (i + 1))]) rfl hrx rfl rfl rfl) hx ?_
  refine zGo_s (pc' := 477) (st' := [.ref 1132, .int v]) (yd (j := 1000) (ins := .aload_n 2) (len := 1) rfl rfl) rfl ?_
  refine zGo_s (pc' := 478) (st' := [.ref 62, .ref 1132, .int v]) (yd (j := 1000) (ins := .aload_n 0) (len := 1) rfl rfl) rfl ?_
  refine zGo_s (pc' := 479) (st' := [.int (nI i), .ref 62, .ref 1132, .int v]) (yd (j := 1000) (ins := .iload_n 3) (len := 1) rfl rfl) rfl ?_
  refine zGo_s (pc' := 480) (st' := [.int 1, .int (nI i), .ref 62, .ref 1132, .int v]) (yd (j := 1000) (ins := .iconst 1) (len := 1) rfl rfl) rfl ?_
  refine zGo_s (pc' := 481) (st' := [.int (nI i + 1), .ref 62, .ref 1132, .int v]) (yd (j := 1000) (ins := .iadd) (len := 1) rfl rfl) rfl ?_
  rw [e_1]
  refine zGo_xs (yd (j := 1000) (ins := .iaload) (len := 1) rfl rfl) h_1 ?_
  rw [n_1]
  refine zGo_call (d := 2047) (as := [.ref 1132, .int (xs (i + 1))]) (rest := [.int v]) (rv := some (.int v)) (q' := (13, yX13_value, cX13_value, 2, some .int, 1, 0)) (yd (j := 1000) (ins := .invokevirtual 67) (len := 3) rfl rfl) rfl rfl (show zcV (13, yX13_value, cX13_value, 2, some .int, 1, 0) [.int (xs (i + 1)), .ref 1132, .int v] hp1 = some ((13, yX13_value, cX13_value, 2, some .int, 1, 0), [.ref 1132, .int (xs (i + 1))], [.int v]) from zcV_ok (b := 1132) (As := [.int (xs (i + 1))]) rfl hrm rfl rfl rfl) hm ?_
  refine zGo_icmp (t := 866) (yd (j := 1000) (ins := .if_icmp .eq 381) (len := 3) rfl rfl) rfl (fun _ => ?_) (fun h9 => absurd rfl (of_decide_eq_false h9))
  exact h
set_option maxRecDepth 40000 in
set_option maxHeartbeats 4000000 in
theorem law_item {fz : Bool} {L : Nat} {xs : Nat → Int32} {i c z c1 z1 c2 z2 : Nat} {hp hp1 hp2 : List PE} {v : Int32} {r : zR} (hi : i + 3 < L) (hL : L < 2 ^ 30) (hrx : zrcv 11 hp 1000 = true) (hrm : zrcv 13 hp1 1132 = true) (hx : zGo (zX fz L xs) 2047 (11, yX11_item, cX11_item, 4, some .int, 2, 0) (0, lv_args 0 [.ref 1000, .int (xs (i + 1)), .int (xs (i + 2))], [], hp, 0, 0) (some (.int v), hp1, c1, z1)) (hm : zGo (zX fz L xs) 2047 (13, yX13_item, cX13_item, 4, some .int, 2, 0) (0, lv_args 0 [.ref 1132, .int (xs (i + 1)), .int (xs (i + 2))], [], hp1, 0, 0) (some (.int v), hp2, c2, z2)) (h : zGo (zX fz L xs) 2048 zLaw (866, [(0, .ref 62), (1, .ref 1000), (2, .ref 1132), (3, .int (nI i))], [], hp2, c + c1 + c2, z + z1 + z2) r) : zGo (zX fz L xs) 2048 zLaw (490, [(0, .ref 62), (1, .ref 1000), (2, .ref 1132), (3, .int (nI i))], [], hp, c, z) r := by
  have e_1 : nI i + 1 = nI (i + 1) := nI_add i 1
  have h_1 : zin? (nI (i + 1)) L = true := zin?_nI (by omega) (by omega)
  have n_1 : (nI (i + 1)).toNatClampNeg = i + 1 := nI_clamp (by omega)
  have e_2 : nI i + 2 = nI (i + 2) := nI_add i 2
  have h_2 : zin? (nI (i + 2)) L = true := zin?_nI (by omega) (by omega)
  have n_2 : (nI (i + 2)).toNatClampNeg = i + 2 := nI_clamp (by omega)
  have e_3 : nI i + 3 = nI (i + 3) := nI_add i 3
  have h_3 : zin? (nI (i + 3)) L = true := zin?_nI (by omega) (by omega)
  have n_3 : (nI (i + 3)).toNatClampNeg = i + 3 := nI_clamp (by omega)
  refine zGo_s (pc' := 491) (st' := [.ref 1000]) (yd (j := 1000) (ins := .aload_n 1) (len := 1) rfl rfl) rfl ?_
  refine zGo_s (pc' := 492) (st' := [.ref 62, .ref 1000]) (yd (j := 1000) (ins := .aload_n 0) (len := 1) rfl rfl) rfl ?_
  refine zGo_s (pc' := 493) (st' := [.int (nI i), .ref 62, .ref 1000]) (yd (j := 1000) (ins := .iload_n 3) (len := 1) rfl rfl) rfl ?_
  refine zGo_s (pc' := 494) (st' := [.int 1, .int (nI i), .ref 62, .ref 1000]) (yd (j := 1000) (ins := .iconst 1) (len := 1) rfl rfl) rfl ?_
  refine zGo_s (pc' := 495) (st' := [.int (nI i + 1), .ref 62, .ref 1000]) (yd (j := 1000) (ins := .iadd) (len := 1) rfl rfl) rfl ?_
  rw [e_1]
  refine zGo_xs (yd (j := 1000) (ins := .iaload) (len := 1) rfl rfl) h_1 ?_
  rw [n_1]
  refine zGo_s (pc' := 497) (st' := [.ref 62, .int (xs (i + 1)), .ref 1000]) (yd (j := 1000) (ins := .aload_n 0) (len := 1) rfl rfl) rfl ?_
  refine zGo_s (pc' := 498) (st' := [.int (nI i), .ref 62, .int (xs (i + 1)), .ref 1000]) (yd (j := 1000) (ins := .iload_n 3) (len := 1) rfl rfl) rfl ?_
  refine zGo_s (pc' := 499) (st' := [.int 2, .int (nI i), .ref 62, .int (xs (i + 1)), .ref 1000]) (yd (j := 1000) (ins := .iconst 2) (len := 1) rfl rfl) rfl ?_
  refine zGo_s (pc' := 500) (st' := [.int (nI i + 2), .ref 62, .int (xs (i + 1)), .ref 1000]) (yd (j := 1000) (ins := .iadd) (len := 1) rfl rfl) rfl ?_
  rw [e_2]
  refine zGo_xs (yd (j := 1000) (ins := .iaload) (len := 1) rfl rfl) h_2 ?_
  rw [n_2]
  refine zGo_call (d := 2047) (as := [.ref 1000, .int (xs (i + 1)), .int (xs (i + 2))]) (rest := []) (rv := some (.int v)) (q' := (11, yX11_item, cX11_item, 4, some .int, 2, 0)) (yd (j := 1000) (ins := .invokevirtual 68) (len := 3) rfl rfl) rfl rfl (show zcV (11, yX11_item, cX11_item, 4, some .int, 2, 0) [.int (xs (i + 2)), .int (xs (i + 1)), .ref 1000] hp = some ((11, yX11_item, cX11_item, 4, some .int, 2, 0), [.ref 1000, .int (xs (i + 1)), .int (xs (i + 2))], []) from zcV_ok (b := 1000) (As := [.int (xs (i + 1)), .int (xs (i + 2))]) rfl hrx rfl rfl rfl) hx ?_
  refine zGo_s (pc' := 505) (st' := [.ref 1132, .int v]) (yd (j := 1000) (ins := .aload_n 2) (len := 1) rfl rfl) rfl ?_
  refine zGo_s (pc' := 506) (st' := [.ref 62, .ref 1132, .int v]) (yd (j := 1000) (ins := .aload_n 0) (len := 1) rfl rfl) rfl ?_
  refine zGo_s (pc' := 507) (st' := [.int (nI i), .ref 62, .ref 1132, .int v]) (yd (j := 1000) (ins := .iload_n 3) (len := 1) rfl rfl) rfl ?_
  refine zGo_s (pc' := 508) (st' := [.int 1, .int (nI i), .ref 62, .ref 1132, .int v]) (yd (j := 1000) (ins := .iconst 1) (len := 1) rfl rfl) rfl ?_
  refine zGo_s (pc' := 509) (st' := [.int (nI i + 1), .ref 62, .ref 1132, .int v]) (yd (j := 1000) (ins := .iadd) (len := 1) rfl rfl) rfl ?_
  rw [e_1]
  refine zGo_xs (yd (j := 1000) (ins := .iaload) (len := 1) rfl rfl) h_1 ?_
  rw [n_1]
  refine zGo_s (pc' := 511) (st' := [.ref 62, .int (xs (i + 1)), .ref 1132, .int v]) (yd (j := 1000) (ins := .aload_n 0) (len := 1) rfl rfl) rfl ?_
  refine zGo_s (pc' := 512) (st' := [.int (nI i), .ref 62, .int (xs (i + 1)), .ref 1132, .int v]) (yd (j := 1000) (ins := .iload_n 3) (len := 1) rfl rfl) rfl ?_
  refine zGo_s (pc' := 513) (st' := [.int 2, .int (nI i), .ref 62, .int (xs (i + 1)), .ref 1132, .int v]) (yd (j := 1000) (ins := .iconst 2) (len := 1) rfl rfl) rfl ?_
  refine zGo_s (pc' := 514) (st' := [.int (nI i + 2), .ref 62, .int (xs (i + 1)), .ref 1132, .int v]) (yd (j := 1000) (ins := .iadd) (len := 1) rfl rfl) rfl ?_
  rw [e_2]
  refine zGo_xs (yd (j := 1000) (ins := .iaload) (len := 1) rfl rfl) h_2 ?_
  rw [n_2]
  refine zGo_call (d := 2047) (as := [.ref 1132, .int (xs (i + 1)), .int (xs (i + 2))]) (rest := [.int v]) (rv := some (.int v)) (q' := (13, yX13_item, cX13_item, 4, some .int, 2, 0)) (yd (j := 1000) (ins := .invokevirtual 71) (len := 3) rfl rfl) rfl rfl (show zcV (13, yX13_item, cX13_item, 4, some .int, 2, 0) [.int (xs (i + 2)), .int (xs (i + 1)), .ref 1132, .int v] hp1 = some ((13, yX13_item, cX13_item, 4, some .int, 2, 0), [.ref 1132, .int (xs (i + 1)), .int (xs (i + 2))], [.int v]) from zcV_ok (b := 1132) (As := [.int (xs (i + 1)), .int (xs (i + 2))]) rfl hrm rfl rfl rfl) hm ?_
  refine zGo_icmp (t := 866) (yd (j := 1000) (ins := .if_icmp .eq 348) (len := 3) rfl rfl) rfl (fun _ => ?_) (fun h9 => absurd rfl (of_decide_eq_false h9))
  exact h
set_option maxRecDepth 40000 in
set_option maxHeartbeats 4000000 in
theorem law_one {fz : Bool} {L : Nat} {xs : Nat → Int32} {i c z c1 z1 c2 z2 : Nat} {hp hp1 hp2 : List PE} {v : Int32} {r : zR} (hi : i + 3 < L) (hL : L < 2 ^ 30) (hrx : zrcv 11 hp 1000 = true) (hrm : zrcv 13 hp1 1132 = true) (hx : zGo (zX fz L xs) 2047 (11, yX11_one, cX11_one, 3, some .int, 2, 0) (0, lv_args 0 [.ref 1000, .int (xs (i + 1)), .int (xs (i + 2))], [], hp, 0, 0) (some (.int v), hp1, c1, z1)) (hm : zGo (zX fz L xs) 2047 (13, yX13_one, cX13_one, 3, some .int, 2, 0) (0, lv_args 0 [.ref 1132, .int (xs (i + 1)), .int (xs (i + 2))], [], hp1, 0, 0) (some (.int v), hp2, c2, z2)) (h : zGo (zX fz L xs) 2048 zLaw (866, [(0, .ref 62), (1, .ref 1000), (2, .ref 1132), (3, .int (nI i))], [], hp2, c + c1 + c2, z + z1 + z2) r) : zGo (zX fz L xs) 2048 zLaw (523, [(0, .ref 62), (1, .ref 1000), (2, .ref 1132), (3, .int (nI i))], [], hp, c, z) r := by
  have e_1 : nI i + 1 = nI (i + 1) := nI_add i 1
  have h_1 : zin? (nI (i + 1)) L = true := zin?_nI (by omega) (by omega)
  have n_1 : (nI (i + 1)).toNatClampNeg = i + 1 := nI_clamp (by omega)
  have e_2 : nI i + 2 = nI (i + 2) := nI_add i 2
  have h_2 : zin? (nI (i + 2)) L = true := zin?_nI (by omega) (by omega)
  have n_2 : (nI (i + 2)).toNatClampNeg = i + 2 := nI_clamp (by omega)
  have e_3 : nI i + 3 = nI (i + 3) := nI_add i 3
  have h_3 : zin? (nI (i + 3)) L = true := zin?_nI (by omega) (by omega)
  have n_3 : (nI (i + 3)).toNatClampNeg = i + 3 := nI_clamp (by omega)
  refine zGo_s (pc' := 524) (st' := [.ref 1000]) (yd (j := 1000) (ins := .aload_n 1) (len := 1) rfl rfl) rfl ?_
  refine zGo_s (pc' := 525) (st' := [.ref 62, .ref 1000]) (yd (j := 1000) (ins := .aload_n 0) (len := 1) rfl rfl) rfl ?_
  refine zGo_s (pc' := 526) (st' := [.int (nI i), .ref 62, .ref 1000]) (yd (j := 1000) (ins := .iload_n 3) (len := 1) rfl rfl) rfl ?_
  refine zGo_s (pc' := 527) (st' := [.int 1, .int (nI i), .ref 62, .ref 1000]) (yd (j := 1000) (ins := .iconst 1) (len := 1) rfl rfl) rfl ?_
  refine zGo_s (pc' := 528) (st' := [.int (nI i + 1), .ref 62, .ref 1000]) (yd (j := 1000) (ins := .iadd) (len := 1) rfl rfl) rfl ?_
  rw [e_1]
  refine zGo_xs (yd (j := 1000) (ins := .iaload) (len := 1) rfl rfl) h_1 ?_
  rw [n_1]
  refine zGo_s (pc' := 530) (st' := [.ref 62, .int (xs (i + 1)), .ref 1000]) (yd (j := 1000) (ins := .aload_n 0) (len := 1) rfl rfl) rfl ?_
  refine zGo_s (pc' := 531) (st' := [.int (nI i), .ref 62, .int (xs (i + 1)), .ref 1000]) (yd (j := 1000) (ins := .iload_n 3) (len := 1) rfl rfl) rfl ?_
  refine zGo_s (pc' := 532) (st' := [.int 2, .int (nI i), .ref 62, .int (xs (i + 1)), .ref 1000]) (yd (j := 1000) (ins := .iconst 2) (len := 1) rfl rfl) rfl ?_
  refine zGo_s (pc' := 533) (st' := [.int (nI i + 2), .ref 62, .int (xs (i + 1)), .ref 1000]) (yd (j := 1000) (ins := .iadd) (len := 1) rfl rfl) rfl ?_
  rw [e_2]
  refine zGo_xs (yd (j := 1000) (ins := .iaload) (len := 1) rfl rfl) h_2 ?_
  rw [n_2]
  refine zGo_call (d := 2047) (as := [.ref 1000, .int (xs (i + 1)), .int (xs (i + 2))]) (rest := []) (rv := some (.int v)) (q' := (11, yX11_one, cX11_one, 3, some .int, 2, 0)) (yd (j := 1000) (ins := .invokevirtual 72) (len := 3) rfl rfl) rfl rfl (show zcV (11, yX11_one, cX11_one, 3, some .int, 2, 0) [.int (xs (i + 2)), .int (xs (i + 1)), .ref 1000] hp = some ((11, yX11_one, cX11_one, 3, some .int, 2, 0), [.ref 1000, .int (xs (i + 1)), .int (xs (i + 2))], []) from zcV_ok (b := 1000) (As := [.int (xs (i + 1)), .int (xs (i + 2))]) rfl hrx rfl rfl rfl) hx ?_
  refine zGo_s (pc' := 538) (st' := [.ref 1132, .int v]) (yd (j := 1000) (ins := .aload_n 2) (len := 1) rfl rfl) rfl ?_
  refine zGo_s (pc' := 539) (st' := [.ref 62, .ref 1132, .int v]) (yd (j := 1000) (ins := .aload_n 0) (len := 1) rfl rfl) rfl ?_
  refine zGo_s (pc' := 540) (st' := [.int (nI i), .ref 62, .ref 1132, .int v]) (yd (j := 1000) (ins := .iload_n 3) (len := 1) rfl rfl) rfl ?_
  refine zGo_s (pc' := 541) (st' := [.int 1, .int (nI i), .ref 62, .ref 1132, .int v]) (yd (j := 1000) (ins := .iconst 1) (len := 1) rfl rfl) rfl ?_
  refine zGo_s (pc' := 542) (st' := [.int (nI i + 1), .ref 62, .ref 1132, .int v]) (yd (j := 1000) (ins := .iadd) (len := 1) rfl rfl) rfl ?_
  rw [e_1]
  refine zGo_xs (yd (j := 1000) (ins := .iaload) (len := 1) rfl rfl) h_1 ?_
  rw [n_1]
  refine zGo_s (pc' := 544) (st' := [.ref 62, .int (xs (i + 1)), .ref 1132, .int v]) (yd (j := 1000) (ins := .aload_n 0) (len := 1) rfl rfl) rfl ?_
  refine zGo_s (pc' := 545) (st' := [.int (nI i), .ref 62, .int (xs (i + 1)), .ref 1132, .int v]) (yd (j := 1000) (ins := .iload_n 3) (len := 1) rfl rfl) rfl ?_
  refine zGo_s (pc' := 546) (st' := [.int 2, .int (nI i), .ref 62, .int (xs (i + 1)), .ref 1132, .int v]) (yd (j := 1000) (ins := .iconst 2) (len := 1) rfl rfl) rfl ?_
  refine zGo_s (pc' := 547) (st' := [.int (nI i + 2), .ref 62, .int (xs (i + 1)), .ref 1132, .int v]) (yd (j := 1000) (ins := .iadd) (len := 1) rfl rfl) rfl ?_
  rw [e_2]
  refine zGo_xs (yd (j := 1000) (ins := .iaload) (len := 1) rfl rfl) h_2 ?_
  rw [n_2]
  refine zGo_call (d := 2047) (as := [.ref 1132, .int (xs (i + 1)), .int (xs (i + 2))]) (rest := [.int v]) (rv := some (.int v)) (q' := (13, yX13_one, cX13_one, 3, some .int, 2, 0)) (yd (j := 1000) (ins := .invokevirtual 75) (len := 3) rfl rfl) rfl rfl (show zcV (13, yX13_one, cX13_one, 3, some .int, 2, 0) [.int (xs (i + 2)), .int (xs (i + 1)), .ref 1132, .int v] hp1 = some ((13, yX13_one, cX13_one, 3, some .int, 2, 0), [.ref 1132, .int (xs (i + 1)), .int (xs (i + 2))], [.int v]) from zcV_ok (b := 1132) (As := [.int (xs (i + 1)), .int (xs (i + 2))]) rfl hrm rfl rfl rfl) hm ?_
  refine zGo_icmp (t := 866) (yd (j := 1000) (ins := .if_icmp .eq 315) (len := 3) rfl rfl) rfl (fun _ => ?_) (fun h9 => absurd rfl (of_decide_eq_false h9))
  exact h
set_option maxRecDepth 40000 in
set_option maxHeartbeats 4000000 in
theorem law_sema {fz : Bool} {L : Nat} {xs : Nat → Int32} {i c z c1 z1 c2 z2 : Nat} {hp hp1 hp2 : List PE} {v : Int32} {r : zR} (hi : i + 3 < L) (hL : L < 2 ^ 30) (hrx : zrcv 11 hp 1000 = true) (hrm : zrcv 13 hp1 1132 = true) (hx : zGo (zX fz L xs) 2047 (11, yX11_sema, cX11_sema, 2, some .int, 1, 0) (0, lv_args 0 [.ref 1000, .int (xs (i + 1))], [], hp, 0, 0) (some (.int v), hp1, c1, z1)) (hm : zGo (zX fz L xs) 2047 (13, yX13_sema, cX13_sema, 2, some .int, 1, 0) (0, lv_args 0 [.ref 1132, .int (xs (i + 1))], [], hp1, 0, 0) (some (.int v), hp2, c2, z2)) (h : zGo (zX fz L xs) 2048 zLaw (866, [(0, .ref 62), (1, .ref 1000), (2, .ref 1132), (3, .int (nI i))], [], hp2, c + c1 + c2, z + z1 + z2) r) : zGo (zX fz L xs) 2048 zLaw (556, [(0, .ref 62), (1, .ref 1000), (2, .ref 1132), (3, .int (nI i))], [], hp, c, z) r := by
  have e_1 : nI i + 1 = nI (i + 1) := nI_add i 1
  have h_1 : zin? (nI (i + 1)) L = true := zin?_nI (by omega) (by omega)
  have n_1 : (nI (i + 1)).toNatClampNeg = i + 1 := nI_clamp (by omega)
  have e_2 : nI i + 2 = nI (i + 2) := nI_add i 2
  have h_2 : zin? (nI (i + 2)) L = true := zin?_nI (by omega) (by omega)
  have n_2 : (nI (i + 2)).toNatClampNeg = i + 2 := nI_clamp (by omega)
  have e_3 : nI i + 3 = nI (i + 3) := nI_add i 3
  have h_3 : zin? (nI (i + 3)) L = true := zin?_nI (by omega) (by omega)
  have n_3 : (nI (i + 3)).toNatClampNeg = i + 3 := nI_clamp (by omega)
  refine zGo_s (pc' := 557) (st' := [.ref 1000]) (yd (j := 1000) (ins := .aload_n 1) (len := 1) rfl rfl) rfl ?_
  refine zGo_s (pc' := 558) (st' := [.ref 62, .ref 1000]) (yd (j := 1000) (ins := .aload_n 0) (len := 1) rfl rfl) rfl ?_
  refine zGo_s (pc' := 559) (st' := [.int (nI i), .ref 62, .ref 1000]) (yd (j := 1000) (ins := .iload_n 3) (len := 1) rfl rfl) rfl ?_
  refine zGo_s (pc' := 560) (st' := [.int 1, .int (nI i), .ref 62, .ref 1000]) (yd (j := 1000) (ins := .iconst 1) (len := 1) rfl rfl) rfl ?_
  refine zGo_s (pc' := 561) (st' := [.int (nI i + 1), .ref 62, .ref 1000]) (yd (j := 1000) (ins := .iadd) (len := 1) rfl rfl) rfl ?_
  rw [e_1]
  refine zGo_xs (yd (j := 1000) (ins := .iaload) (len := 1) rfl rfl) h_1 ?_
  rw [n_1]
  refine zGo_call (d := 2047) (as := [.ref 1000, .int (xs (i + 1))]) (rest := []) (rv := some (.int v)) (q' := (11, yX11_sema, cX11_sema, 2, some .int, 1, 0)) (yd (j := 1000) (ins := .invokevirtual 76) (len := 3) rfl rfl) rfl rfl (show zcV (11, yX11_sema, cX11_sema, 2, some .int, 1, 0) [.int (xs (i + 1)), .ref 1000] hp = some ((11, yX11_sema, cX11_sema, 2, some .int, 1, 0), [.ref 1000, .int (xs (i + 1))], []) from zcV_ok (b := 1000) (As := [.int (xs (i + 1))]) rfl hrx rfl rfl rfl) hx ?_
  refine zGo_s (pc' := 566) (st' := [.ref 1132, .int v]) (yd (j := 1000) (ins := .aload_n 2) (len := 1) rfl rfl) rfl ?_
  refine zGo_s (pc' := 567) (st' := [.ref 62, .ref 1132, .int v]) (yd (j := 1000) (ins := .aload_n 0) (len := 1) rfl rfl) rfl ?_
  refine zGo_s (pc' := 568) (st' := [.int (nI i), .ref 62, .ref 1132, .int v]) (yd (j := 1000) (ins := .iload_n 3) (len := 1) rfl rfl) rfl ?_
  refine zGo_s (pc' := 569) (st' := [.int 1, .int (nI i), .ref 62, .ref 1132, .int v]) (yd (j := 1000) (ins := .iconst 1) (len := 1) rfl rfl) rfl ?_
  refine zGo_s (pc' := 570) (st' := [.int (nI i + 1), .ref 62, .ref 1132, .int v]) (yd (j := 1000) (ins := .iadd) (len := 1) rfl rfl) rfl ?_
  rw [e_1]
  refine zGo_xs (yd (j := 1000) (ins := .iaload) (len := 1) rfl rfl) h_1 ?_
  rw [n_1]
  refine zGo_call (d := 2047) (as := [.ref 1132, .int (xs (i + 1))]) (rest := [.int v]) (rv := some (.int v)) (q' := (13, yX13_sema, cX13_sema, 2, some .int, 1, 0)) (yd (j := 1000) (ins := .invokevirtual 79) (len := 3) rfl rfl) rfl rfl (show zcV (13, yX13_sema, cX13_sema, 2, some .int, 1, 0) [.int (xs (i + 1)), .ref 1132, .int v] hp1 = some ((13, yX13_sema, cX13_sema, 2, some .int, 1, 0), [.ref 1132, .int (xs (i + 1))], [.int v]) from zcV_ok (b := 1132) (As := [.int (xs (i + 1))]) rfl hrm rfl rfl rfl) hm ?_
  refine zGo_icmp (t := 866) (yd (j := 1000) (ins := .if_icmp .eq 292) (len := 3) rfl rfl) rfl (fun _ => ?_) (fun h9 => absurd rfl (of_decide_eq_false h9))
  exact h
set_option maxRecDepth 40000 in
set_option maxHeartbeats 4000000 in
theorem law_bolt {fz : Bool} {L : Nat} {xs : Nat → Int32} {i c z c1 z1 c2 z2 : Nat} {hp hp1 hp2 : List PE} {v : Int32} {r : zR} (hi : i + 3 < L) (hL : L < 2 ^ 30) (hrx : zrcv 11 hp 1000 = true) (hrm : zrcv 13 hp1 1132 = true) (hx : zGo (zX fz L xs) 2047 (11, yX11_bolt, cX11_bolt, 3, some .int, 2, 0) (0, lv_args 0 [.ref 1000, .int (xs (i + 1)), .int (xs (i + 2))], [], hp, 0, 0) (some (.int v), hp1, c1, z1)) (hm : zGo (zX fz L xs) 2047 (13, yX13_bolt, cX13_bolt, 3, some .int, 2, 0) (0, lv_args 0 [.ref 1132, .int (xs (i + 1)), .int (xs (i + 2))], [], hp1, 0, 0) (some (.int v), hp2, c2, z2)) (h : zGo (zX fz L xs) 2048 zLaw (866, [(0, .ref 62), (1, .ref 1000), (2, .ref 1132), (3, .int (nI i))], [], hp2, c + c1 + c2, z + z1 + z2) r) : zGo (zX fz L xs) 2048 zLaw (579, [(0, .ref 62), (1, .ref 1000), (2, .ref 1132), (3, .int (nI i))], [], hp, c, z) r := by
  have e_1 : nI i + 1 = nI (i + 1) := nI_add i 1
  have h_1 : zin? (nI (i + 1)) L = true := zin?_nI (by omega) (by omega)
  have n_1 : (nI (i + 1)).toNatClampNeg = i + 1 := nI_clamp (by omega)
  have e_2 : nI i + 2 = nI (i + 2) := nI_add i 2
  have h_2 : zin? (nI (i + 2)) L = true := zin?_nI (by omega) (by omega)
  have n_2 : (nI (i + 2)).toNatClampNeg = i + 2 := nI_clamp (by omega)
  have e_3 : nI i + 3 = nI (i + 3) := nI_add i 3
  have h_3 : zin? (nI (i + 3)) L = true := zin?_nI (by omega) (by omega)
  have n_3 : (nI (i + 3)).toNatClampNeg = i + 3 := nI_clamp (by omega)
  refine zGo_s (pc' := 580) (st' := [.ref 1000]) (yd (j := 1000) (ins := .aload_n 1) (len := 1) rfl rfl) rfl ?_
  refine zGo_s (pc' := 581) (st' := [.ref 62, .ref 1000]) (yd (j := 1000) (ins := .aload_n 0) (len := 1) rfl rfl) rfl ?_
  refine zGo_s (pc' := 582) (st' := [.int (nI i), .ref 62, .ref 1000]) (yd (j := 1000) (ins := .iload_n 3) (len := 1) rfl rfl) rfl ?_
  refine zGo_s (pc' := 583) (st' := [.int 1, .int (nI i), .ref 62, .ref 1000]) (yd (j := 1000) (ins := .iconst 1) (len := 1) rfl rfl) rfl ?_
  refine zGo_s (pc' := 584) (st' := [.int (nI i + 1), .ref 62, .ref 1000]) (yd (j := 1000) (ins := .iadd) (len := 1) rfl rfl) rfl ?_
  rw [e_1]
  refine zGo_xs (yd (j := 1000) (ins := .iaload) (len := 1) rfl rfl) h_1 ?_
  rw [n_1]
  refine zGo_s (pc' := 586) (st' := [.ref 62, .int (xs (i + 1)), .ref 1000]) (yd (j := 1000) (ins := .aload_n 0) (len := 1) rfl rfl) rfl ?_
  refine zGo_s (pc' := 587) (st' := [.int (nI i), .ref 62, .int (xs (i + 1)), .ref 1000]) (yd (j := 1000) (ins := .iload_n 3) (len := 1) rfl rfl) rfl ?_
  refine zGo_s (pc' := 588) (st' := [.int 2, .int (nI i), .ref 62, .int (xs (i + 1)), .ref 1000]) (yd (j := 1000) (ins := .iconst 2) (len := 1) rfl rfl) rfl ?_
  refine zGo_s (pc' := 589) (st' := [.int (nI i + 2), .ref 62, .int (xs (i + 1)), .ref 1000]) (yd (j := 1000) (ins := .iadd) (len := 1) rfl rfl) rfl ?_
  rw [e_2]
  refine zGo_xs (yd (j := 1000) (ins := .iaload) (len := 1) rfl rfl) h_2 ?_
  rw [n_2]
  refine zGo_call (d := 2047) (as := [.ref 1000, .int (xs (i + 1)), .int (xs (i + 2))]) (rest := []) (rv := some (.int v)) (q' := (11, yX11_bolt, cX11_bolt, 3, some .int, 2, 0)) (yd (j := 1000) (ins := .invokevirtual 80) (len := 3) rfl rfl) rfl rfl (show zcV (11, yX11_bolt, cX11_bolt, 3, some .int, 2, 0) [.int (xs (i + 2)), .int (xs (i + 1)), .ref 1000] hp = some ((11, yX11_bolt, cX11_bolt, 3, some .int, 2, 0), [.ref 1000, .int (xs (i + 1)), .int (xs (i + 2))], []) from zcV_ok (b := 1000) (As := [.int (xs (i + 1)), .int (xs (i + 2))]) rfl hrx rfl rfl rfl) hx ?_
  refine zGo_s (pc' := 594) (st' := [.ref 1132, .int v]) (yd (j := 1000) (ins := .aload_n 2) (len := 1) rfl rfl) rfl ?_
  refine zGo_s (pc' := 595) (st' := [.ref 62, .ref 1132, .int v]) (yd (j := 1000) (ins := .aload_n 0) (len := 1) rfl rfl) rfl ?_
  refine zGo_s (pc' := 596) (st' := [.int (nI i), .ref 62, .ref 1132, .int v]) (yd (j := 1000) (ins := .iload_n 3) (len := 1) rfl rfl) rfl ?_
  refine zGo_s (pc' := 597) (st' := [.int 1, .int (nI i), .ref 62, .ref 1132, .int v]) (yd (j := 1000) (ins := .iconst 1) (len := 1) rfl rfl) rfl ?_
  refine zGo_s (pc' := 598) (st' := [.int (nI i + 1), .ref 62, .ref 1132, .int v]) (yd (j := 1000) (ins := .iadd) (len := 1) rfl rfl) rfl ?_
  rw [e_1]
  refine zGo_xs (yd (j := 1000) (ins := .iaload) (len := 1) rfl rfl) h_1 ?_
  rw [n_1]
  refine zGo_s (pc' := 600) (st' := [.ref 62, .int (xs (i + 1)), .ref 1132, .int v]) (yd (j := 1000) (ins := .aload_n 0) (len := 1) rfl rfl) rfl ?_
  refine zGo_s (pc' := 601) (st' := [.int (nI i), .ref 62, .int (xs (i + 1)), .ref 1132, .int v]) (yd (j := 1000) (ins := .iload_n 3) (len := 1) rfl rfl) rfl ?_
  refine zGo_s (pc' := 602) (st' := [.int 2, .int (nI i), .ref 62, .int (xs (i + 1)), .ref 1132, .int v]) (yd (j := 1000) (ins := .iconst 2) (len := 1) rfl rfl) rfl ?_
  refine zGo_s (pc' := 603) (st' := [.int (nI i + 2), .ref 62, .int (xs (i + 1)), .ref 1132, .int v]) (yd (j := 1000) (ins := .iadd) (len := 1) rfl rfl) rfl ?_
  rw [e_2]
  refine zGo_xs (yd (j := 1000) (ins := .iaload) (len := 1) rfl rfl) h_2 ?_
  rw [n_2]
  refine zGo_call (d := 2047) (as := [.ref 1132, .int (xs (i + 1)), .int (xs (i + 2))]) (rest := [.int v]) (rv := some (.int v)) (q' := (13, yX13_bolt, cX13_bolt, 3, some .int, 2, 0)) (yd (j := 1000) (ins := .invokevirtual 83) (len := 3) rfl rfl) rfl rfl (show zcV (13, yX13_bolt, cX13_bolt, 3, some .int, 2, 0) [.int (xs (i + 2)), .int (xs (i + 1)), .ref 1132, .int v] hp1 = some ((13, yX13_bolt, cX13_bolt, 3, some .int, 2, 0), [.ref 1132, .int (xs (i + 1)), .int (xs (i + 2))], [.int v]) from zcV_ok (b := 1132) (As := [.int (xs (i + 1)), .int (xs (i + 2))]) rfl hrm rfl rfl rfl) hm ?_
  refine zGo_icmp (t := 866) (yd (j := 1000) (ins := .if_icmp .eq 259) (len := 3) rfl rfl) rfl (fun _ => ?_) (fun h9 => absurd rfl (of_decide_eq_false h9))
  exact h
set_option maxRecDepth 40000 in
set_option maxHeartbeats 4000000 in
theorem law_irpt {fz : Bool} {L : Nat} {xs : Nat → Int32} {i c z c1 z1 c2 z2 : Nat} {hp hp1 hp2 : List PE} {v : Int32} {r : zR} (hi : i + 3 < L) (hL : L < 2 ^ 30) (hrx : zrcv 11 hp 1000 = true) (hrm : zrcv 13 hp1 1132 = true) (hx : zGo (zX fz L xs) 2047 (11, yX11_irpt, cX11_irpt, 3, some .int, 2, 0) (0, lv_args 0 [.ref 1000, .int (xs (i + 1)), .int (xs (i + 2))], [], hp, 0, 0) (some (.int v), hp1, c1, z1)) (hm : zGo (zX fz L xs) 2047 (13, yX13_irpt, cX13_irpt, 3, some .int, 2, 0) (0, lv_args 0 [.ref 1132, .int (xs (i + 1)), .int (xs (i + 2))], [], hp1, 0, 0) (some (.int v), hp2, c2, z2)) (h : zGo (zX fz L xs) 2048 zLaw (866, [(0, .ref 62), (1, .ref 1000), (2, .ref 1132), (3, .int (nI i))], [], hp2, c + c1 + c2, z + z1 + z2) r) : zGo (zX fz L xs) 2048 zLaw (612, [(0, .ref 62), (1, .ref 1000), (2, .ref 1132), (3, .int (nI i))], [], hp, c, z) r := by
  have e_1 : nI i + 1 = nI (i + 1) := nI_add i 1
  have h_1 : zin? (nI (i + 1)) L = true := zin?_nI (by omega) (by omega)
  have n_1 : (nI (i + 1)).toNatClampNeg = i + 1 := nI_clamp (by omega)
  have e_2 : nI i + 2 = nI (i + 2) := nI_add i 2
  have h_2 : zin? (nI (i + 2)) L = true := zin?_nI (by omega) (by omega)
  have n_2 : (nI (i + 2)).toNatClampNeg = i + 2 := nI_clamp (by omega)
  have e_3 : nI i + 3 = nI (i + 3) := nI_add i 3
  have h_3 : zin? (nI (i + 3)) L = true := zin?_nI (by omega) (by omega)
  have n_3 : (nI (i + 3)).toNatClampNeg = i + 3 := nI_clamp (by omega)
  refine zGo_s (pc' := 613) (st' := [.ref 1000]) (yd (j := 1000) (ins := .aload_n 1) (len := 1) rfl rfl) rfl ?_
  refine zGo_s (pc' := 614) (st' := [.ref 62, .ref 1000]) (yd (j := 1000) (ins := .aload_n 0) (len := 1) rfl rfl) rfl ?_
  refine zGo_s (pc' := 615) (st' := [.int (nI i), .ref 62, .ref 1000]) (yd (j := 1000) (ins := .iload_n 3) (len := 1) rfl rfl) rfl ?_
  refine zGo_s (pc' := 616) (st' := [.int 1, .int (nI i), .ref 62, .ref 1000]) (yd (j := 1000) (ins := .iconst 1) (len := 1) rfl rfl) rfl ?_
  refine zGo_s (pc' := 617) (st' := [.int (nI i + 1), .ref 62, .ref 1000]) (yd (j := 1000) (ins := .iadd) (len := 1) rfl rfl) rfl ?_
  rw [e_1]
  refine zGo_xs (yd (j := 1000) (ins := .iaload) (len := 1) rfl rfl) h_1 ?_
  rw [n_1]
  refine zGo_s (pc' := 619) (st' := [.ref 62, .int (xs (i + 1)), .ref 1000]) (yd (j := 1000) (ins := .aload_n 0) (len := 1) rfl rfl) rfl ?_
  refine zGo_s (pc' := 620) (st' := [.int (nI i), .ref 62, .int (xs (i + 1)), .ref 1000]) (yd (j := 1000) (ins := .iload_n 3) (len := 1) rfl rfl) rfl ?_
  refine zGo_s (pc' := 621) (st' := [.int 2, .int (nI i), .ref 62, .int (xs (i + 1)), .ref 1000]) (yd (j := 1000) (ins := .iconst 2) (len := 1) rfl rfl) rfl ?_
  refine zGo_s (pc' := 622) (st' := [.int (nI i + 2), .ref 62, .int (xs (i + 1)), .ref 1000]) (yd (j := 1000) (ins := .iadd) (len := 1) rfl rfl) rfl ?_
  rw [e_2]
  refine zGo_xs (yd (j := 1000) (ins := .iaload) (len := 1) rfl rfl) h_2 ?_
  rw [n_2]
  refine zGo_call (d := 2047) (as := [.ref 1000, .int (xs (i + 1)), .int (xs (i + 2))]) (rest := []) (rv := some (.int v)) (q' := (11, yX11_irpt, cX11_irpt, 3, some .int, 2, 0)) (yd (j := 1000) (ins := .invokevirtual 84) (len := 3) rfl rfl) rfl rfl (show zcV (11, yX11_irpt, cX11_irpt, 3, some .int, 2, 0) [.int (xs (i + 2)), .int (xs (i + 1)), .ref 1000] hp = some ((11, yX11_irpt, cX11_irpt, 3, some .int, 2, 0), [.ref 1000, .int (xs (i + 1)), .int (xs (i + 2))], []) from zcV_ok (b := 1000) (As := [.int (xs (i + 1)), .int (xs (i + 2))]) rfl hrx rfl rfl rfl) hx ?_
  refine zGo_s (pc' := 627) (st' := [.ref 1132, .int v]) (yd (j := 1000) (ins := .aload_n 2) (len := 1) rfl rfl) rfl ?_
  refine zGo_s (pc' := 628) (st' := [.ref 62, .ref 1132, .int v]) (yd (j := 1000) (ins := .aload_n 0) (len := 1) rfl rfl) rfl ?_
  refine zGo_s (pc' := 629) (st' := [.int (nI i), .ref 62, .ref 1132, .int v]) (yd (j := 1000) (ins := .iload_n 3) (len := 1) rfl rfl) rfl ?_
  refine zGo_s (pc' := 630) (st' := [.int 1, .int (nI i), .ref 62, .ref 1132, .int v]) (yd (j := 1000) (ins := .iconst 1) (len := 1) rfl rfl) rfl ?_
  refine zGo_s (pc' := 631) (st' := [.int (nI i + 1), .ref 62, .ref 1132, .int v]) (yd (j := 1000) (ins := .iadd) (len := 1) rfl rfl) rfl ?_
  rw [e_1]
  refine zGo_xs (yd (j := 1000) (ins := .iaload) (len := 1) rfl rfl) h_1 ?_
  rw [n_1]
  refine zGo_s (pc' := 633) (st' := [.ref 62, .int (xs (i + 1)), .ref 1132, .int v]) (yd (j := 1000) (ins := .aload_n 0) (len := 1) rfl rfl) rfl ?_
  refine zGo_s (pc' := 634) (st' := [.int (nI i), .ref 62, .int (xs (i + 1)), .ref 1132, .int v]) (yd (j := 1000) (ins := .iload_n 3) (len := 1) rfl rfl) rfl ?_
  refine zGo_s (pc' := 635) (st' := [.int 2, .int (nI i), .ref 62, .int (xs (i + 1)), .ref 1132, .int v]) (yd (j := 1000) (ins := .iconst 2) (len := 1) rfl rfl) rfl ?_
  refine zGo_s (pc' := 636) (st' := [.int (nI i + 2), .ref 62, .int (xs (i + 1)), .ref 1132, .int v]) (yd (j := 1000) (ins := .iadd) (len := 1) rfl rfl) rfl ?_
  rw [e_2]
  refine zGo_xs (yd (j := 1000) (ins := .iaload) (len := 1) rfl rfl) h_2 ?_
  rw [n_2]
  refine zGo_call (d := 2047) (as := [.ref 1132, .int (xs (i + 1)), .int (xs (i + 2))]) (rest := [.int v]) (rv := some (.int v)) (q' := (13, yX13_irpt, cX13_irpt, 3, some .int, 2, 0)) (yd (j := 1000) (ins := .invokevirtual 87) (len := 3) rfl rfl) rfl rfl (show zcV (13, yX13_irpt, cX13_irpt, 3, some .int, 2, 0) [.int (xs (i + 2)), .int (xs (i + 1)), .ref 1132, .int v] hp1 = some ((13, yX13_irpt, cX13_irpt, 3, some .int, 2, 0), [.ref 1132, .int (xs (i + 1)), .int (xs (i + 2))], [.int v]) from zcV_ok (b := 1132) (As := [.int (xs (i + 1)), .int (xs (i + 2))]) rfl hrm rfl rfl rfl) hm ?_
  refine zGo_icmp (t := 866) (yd (j := 1000) (ins := .if_icmp .eq 226) (len := 3) rfl rfl) rfl (fun _ => ?_) (fun h9 => absurd rfl (of_decide_eq_false h9))
  exact h
set_option maxRecDepth 40000 in
set_option maxHeartbeats 4000000 in
theorem law_sent {fz : Bool} {L : Nat} {xs : Nat → Int32} {i c z c1 z1 c2 z2 : Nat} {hp hp1 hp2 : List PE} {v : Int32} {r : zR} (hi : i + 3 < L) (hL : L < 2 ^ 30) (hrx : zrcv 11 hp 1000 = true) (hrm : zrcv 13 hp1 1132 = true) (hx : zGo (zX fz L xs) 2047 (11, yX11_sent, cX11_sent, 4, some .int, 2, 0) (0, lv_args 0 [.ref 1000, .int (xs (i + 1)), .int (xs (i + 2))], [], hp, 0, 0) (some (.int v), hp1, c1, z1)) (hm : zGo (zX fz L xs) 2047 (13, yX13_sent, cX13_sent, 4, some .int, 2, 0) (0, lv_args 0 [.ref 1132, .int (xs (i + 1)), .int (xs (i + 2))], [], hp1, 0, 0) (some (.int v), hp2, c2, z2)) (h : zGo (zX fz L xs) 2048 zLaw (866, [(0, .ref 62), (1, .ref 1000), (2, .ref 1132), (3, .int (nI i))], [], hp2, c + c1 + c2, z + z1 + z2) r) : zGo (zX fz L xs) 2048 zLaw (645, [(0, .ref 62), (1, .ref 1000), (2, .ref 1132), (3, .int (nI i))], [], hp, c, z) r := by
  have e_1 : nI i + 1 = nI (i + 1) := nI_add i 1
  have h_1 : zin? (nI (i + 1)) L = true := zin?_nI (by omega) (by omega)
  have n_1 : (nI (i + 1)).toNatClampNeg = i + 1 := nI_clamp (by omega)
  have e_2 : nI i + 2 = nI (i + 2) := nI_add i 2
  have h_2 : zin? (nI (i + 2)) L = true := zin?_nI (by omega) (by omega)
  have n_2 : (nI (i + 2)).toNatClampNeg = i + 2 := nI_clamp (by omega)
  have e_3 : nI i + 3 = nI (i + 3) := nI_add i 3
  have h_3 : zin? (nI (i + 3)) L = true := zin?_nI (by omega) (by omega)
  have n_3 : (nI (i + 3)).toNatClampNeg = i + 3 := nI_clamp (by omega)
  refine zGo_s (pc' := 646) (st' := [.ref 1000]) (yd (j := 1000) (ins := .aload_n 1) (len := 1) rfl rfl) rfl ?_
  refine zGo_s (pc' := 647) (st' := [.ref 62, .ref 1000]) (yd (j := 1000) (ins := .aload_n 0) (len := 1) rfl rfl) rfl ?_
  refine zGo_s (pc' := 648) (st' := [.int (nI i), .ref 62, .ref 1000]) (yd (j := 1000) (ins := .iload_n 3) (len := 1) rfl rfl) rfl ?_
  refine zGo_s (pc' := 649) (st' := [.int 1, .int (nI i), .ref 62, .ref 1000]) (yd (j := 1000) (ins := .iconst 1) (len := 1) rfl rfl) rfl ?_
  refine zGo_s (pc' := 650) (st' := [.int (nI i + 1), .ref 62, .ref 1000]) (yd (j := 1000) (ins := .iadd) (len := 1) rfl rfl) rfl ?_
  rw [e_1]
  refine zGo_xs (yd (j := 1000) (ins := .iaload) (len := 1) rfl rfl) h_1 ?_
  rw [n_1]
  refine zGo_s (pc' := 652) (st' := [.ref 62, .int (xs (i + 1)), .ref 1000]) (yd (j := 1000) (ins := .aload_n 0) (len := 1) rfl rfl) rfl ?_
  refine zGo_s (pc' := 653) (st' := [.int (nI i), .ref 62, .int (xs (i + 1)), .ref 1000]) (yd (j := 1000) (ins := .iload_n 3) (len := 1) rfl rfl) rfl ?_
  refine zGo_s (pc' := 654) (st' := [.int 2, .int (nI i), .ref 62, .int (xs (i + 1)), .ref 1000]) (yd (j := 1000) (ins := .iconst 2) (len := 1) rfl rfl) rfl ?_
  refine zGo_s (pc' := 655) (st' := [.int (nI i + 2), .ref 62, .int (xs (i + 1)), .ref 1000]) (yd (j := 1000) (ins := .iadd) (len := 1) rfl rfl) rfl ?_
  rw [e_2]
  refine zGo_xs (yd (j := 1000) (ins := .iaload) (len := 1) rfl rfl) h_2 ?_
  rw [n_2]
  refine zGo_call (d := 2047) (as := [.ref 1000, .int (xs (i + 1)), .int (xs (i + 2))]) (rest := []) (rv := some (.int v)) (q' := (11, yX11_sent, cX11_sent, 4, some .int, 2, 0)) (yd (j := 1000) (ins := .invokevirtual 88) (len := 3) rfl rfl) rfl rfl (show zcV (11, yX11_sent, cX11_sent, 4, some .int, 2, 0) [.int (xs (i + 2)), .int (xs (i + 1)), .ref 1000] hp = some ((11, yX11_sent, cX11_sent, 4, some .int, 2, 0), [.ref 1000, .int (xs (i + 1)), .int (xs (i + 2))], []) from zcV_ok (b := 1000) (As := [.int (xs (i + 1)), .int (xs (i + 2))]) rfl hrx rfl rfl rfl) hx ?_
  refine zGo_s (pc' := 660) (st' := [.ref 1132, .int v]) (yd (j := 1000) (ins := .aload_n 2) (len := 1) rfl rfl) rfl ?_
  refine zGo_s (pc' := 661) (st' := [.ref 62, .ref 1132, .int v]) (yd (j := 1000) (ins := .aload_n 0) (len := 1) rfl rfl) rfl ?_
  refine zGo_s (pc' := 662) (st' := [.int (nI i), .ref 62, .ref 1132, .int v]) (yd (j := 1000) (ins := .iload_n 3) (len := 1) rfl rfl) rfl ?_
  refine zGo_s (pc' := 663) (st' := [.int 1, .int (nI i), .ref 62, .ref 1132, .int v]) (yd (j := 1000) (ins := .iconst 1) (len := 1) rfl rfl) rfl ?_
  refine zGo_s (pc' := 664) (st' := [.int (nI i + 1), .ref 62, .ref 1132, .int v]) (yd (j := 1000) (ins := .iadd) (len := 1) rfl rfl) rfl ?_
  rw [e_1]
  refine zGo_xs (yd (j := 1000) (ins := .iaload) (len := 1) rfl rfl) h_1 ?_
  rw [n_1]
  refine zGo_s (pc' := 666) (st' := [.ref 62, .int (xs (i + 1)), .ref 1132, .int v]) (yd (j := 1000) (ins := .aload_n 0) (len := 1) rfl rfl) rfl ?_
  refine zGo_s (pc' := 667) (st' := [.int (nI i), .ref 62, .int (xs (i + 1)), .ref 1132, .int v]) (yd (j := 1000) (ins := .iload_n 3) (len := 1) rfl rfl) rfl ?_
  refine zGo_s (pc' := 668) (st' := [.int 2, .int (nI i), .ref 62, .int (xs (i + 1)), .ref 1132, .int v]) (yd (j := 1000) (ins := .iconst 2) (len := 1) rfl rfl) rfl ?_
  refine zGo_s (pc' := 669) (st' := [.int (nI i + 2), .ref 62, .int (xs (i + 1)), .ref 1132, .int v]) (yd (j := 1000) (ins := .iadd) (len := 1) rfl rfl) rfl ?_
  rw [e_2]
  refine zGo_xs (yd (j := 1000) (ins := .iaload) (len := 1) rfl rfl) h_2 ?_
  rw [n_2]
  refine zGo_call (d := 2047) (as := [.ref 1132, .int (xs (i + 1)), .int (xs (i + 2))]) (rest := [.int v]) (rv := some (.int v)) (q' := (13, yX13_sent, cX13_sent, 4, some .int, 2, 0)) (yd (j := 1000) (ins := .invokevirtual 91) (len := 3) rfl rfl) rfl rfl (show zcV (13, yX13_sent, cX13_sent, 4, some .int, 2, 0) [.int (xs (i + 2)), .int (xs (i + 1)), .ref 1132, .int v] hp1 = some ((13, yX13_sent, cX13_sent, 4, some .int, 2, 0), [.ref 1132, .int (xs (i + 1)), .int (xs (i + 2))], [.int v]) from zcV_ok (b := 1132) (As := [.int (xs (i + 1)), .int (xs (i + 2))]) rfl hrm rfl rfl rfl) hm ?_
  refine zGo_icmp (t := 866) (yd (j := 1000) (ins := .if_icmp .eq 193) (len := 3) rfl rfl) rfl (fun _ => ?_) (fun h9 => absurd rfl (of_decide_eq_false h9))
  exact h
set_option maxRecDepth 40000 in
set_option maxHeartbeats 4000000 in
theorem law_waits {fz : Bool} {L : Nat} {xs : Nat → Int32} {i c z c1 z1 c2 z2 : Nat} {hp hp1 hp2 : List PE} {v : Int32} {r : zR} (hi : i + 3 < L) (hL : L < 2 ^ 30) (hrx : zrcv 11 hp 1000 = true) (hrm : zrcv 13 hp1 1132 = true) (hx : zGo (zX fz L xs) 2047 (11, yX11_waits, cX11_waits, 4, some .int, 3, 0) (0, lv_args 0 [.ref 1000, .int (xs (i + 1)), .int (xs (i + 2)), .int (xs (i + 3))], [], hp, 0, 0) (some (.int v), hp1, c1, z1)) (hm : zGo (zX fz L xs) 2047 (13, yX13_waits, cX13_waits, 6, some .int, 3, 0) (0, lv_args 0 [.ref 1132, .int (xs (i + 1)), .int (xs (i + 2)), .int (xs (i + 3))], [], hp1, 0, 0) (some (.int v), hp2, c2, z2)) (h : zGo (zX fz L xs) 2048 zLaw (866, [(0, .ref 62), (1, .ref 1000), (2, .ref 1132), (3, .int (nI i))], [], hp2, c + c1 + c2, z + z1 + z2) r) : zGo (zX fz L xs) 2048 zLaw (678, [(0, .ref 62), (1, .ref 1000), (2, .ref 1132), (3, .int (nI i))], [], hp, c, z) r := by
  have e_1 : nI i + 1 = nI (i + 1) := nI_add i 1
  have h_1 : zin? (nI (i + 1)) L = true := zin?_nI (by omega) (by omega)
  have n_1 : (nI (i + 1)).toNatClampNeg = i + 1 := nI_clamp (by omega)
  have e_2 : nI i + 2 = nI (i + 2) := nI_add i 2
  have h_2 : zin? (nI (i + 2)) L = true := zin?_nI (by omega) (by omega)
  have n_2 : (nI (i + 2)).toNatClampNeg = i + 2 := nI_clamp (by omega)
  have e_3 : nI i + 3 = nI (i + 3) := nI_add i 3
  have h_3 : zin? (nI (i + 3)) L = true := zin?_nI (by omega) (by omega)
  have n_3 : (nI (i + 3)).toNatClampNeg = i + 3 := nI_clamp (by omega)
  refine zGo_s (pc' := 679) (st' := [.ref 1000]) (yd (j := 1000) (ins := .aload_n 1) (len := 1) rfl rfl) rfl ?_
  refine zGo_s (pc' := 680) (st' := [.ref 62, .ref 1000]) (yd (j := 1000) (ins := .aload_n 0) (len := 1) rfl rfl) rfl ?_
  refine zGo_s (pc' := 681) (st' := [.int (nI i), .ref 62, .ref 1000]) (yd (j := 1000) (ins := .iload_n 3) (len := 1) rfl rfl) rfl ?_
  refine zGo_s (pc' := 682) (st' := [.int 1, .int (nI i), .ref 62, .ref 1000]) (yd (j := 1000) (ins := .iconst 1) (len := 1) rfl rfl) rfl ?_
  refine zGo_s (pc' := 683) (st' := [.int (nI i + 1), .ref 62, .ref 1000]) (yd (j := 1000) (ins := .iadd) (len := 1) rfl rfl) rfl ?_
  rw [e_1]
  refine zGo_xs (yd (j := 1000) (ins := .iaload) (len := 1) rfl rfl) h_1 ?_
  rw [n_1]
  refine zGo_s (pc' := 685) (st' := [.ref 62, .int (xs (i + 1)), .ref 1000]) (yd (j := 1000) (ins := .aload_n 0) (len := 1) rfl rfl) rfl ?_
  refine zGo_s (pc' := 686) (st' := [.int (nI i), .ref 62, .int (xs (i + 1)), .ref 1000]) (yd (j := 1000) (ins := .iload_n 3) (len := 1) rfl rfl) rfl ?_
  refine zGo_s (pc' := 687) (st' := [.int 2, .int (nI i), .ref 62, .int (xs (i + 1)), .ref 1000]) (yd (j := 1000) (ins := .iconst 2) (len := 1) rfl rfl) rfl ?_
  refine zGo_s (pc' := 688) (st' := [.int (nI i + 2), .ref 62, .int (xs (i + 1)), .ref 1000]) (yd (j := 1000) (ins := .iadd) (len := 1) rfl rfl) rfl ?_
  rw [e_2]
  refine zGo_xs (yd (j := 1000) (ins := .iaload) (len := 1) rfl rfl) h_2 ?_
  rw [n_2]
  refine zGo_s (pc' := 690) (st' := [.ref 62, .int (xs (i + 2)), .int (xs (i + 1)), .ref 1000]) (yd (j := 1000) (ins := .aload_n 0) (len := 1) rfl rfl) rfl ?_
  refine zGo_s (pc' := 691) (st' := [.int (nI i), .ref 62, .int (xs (i + 2)), .int (xs (i + 1)), .ref 1000]) (yd (j := 1000) (ins := .iload_n 3) (len := 1) rfl rfl) rfl ?_
  refine zGo_s (pc' := 692) (st' := [.int 3, .int (nI i), .ref 62, .int (xs (i + 2)), .int (xs (i + 1)), .ref 1000]) (yd (j := 1000) (ins := .iconst 3) (len := 1) rfl rfl) rfl ?_
  refine zGo_s (pc' := 693) (st' := [.int (nI i + 3), .ref 62, .int (xs (i + 2)), .int (xs (i + 1)), .ref 1000]) (yd (j := 1000) (ins := .iadd) (len := 1) rfl rfl) rfl ?_
  rw [e_3]
  refine zGo_xs (yd (j := 1000) (ins := .iaload) (len := 1) rfl rfl) h_3 ?_
  rw [n_3]
  refine zGo_call (d := 2047) (as := [.ref 1000, .int (xs (i + 1)), .int (xs (i + 2)), .int (xs (i + 3))]) (rest := []) (rv := some (.int v)) (q' := (11, yX11_waits, cX11_waits, 4, some .int, 3, 0)) (yd (j := 1000) (ins := .invokevirtual 92) (len := 3) rfl rfl) rfl rfl (show zcV (11, yX11_waits, cX11_waits, 4, some .int, 3, 0) [.int (xs (i + 3)), .int (xs (i + 2)), .int (xs (i + 1)), .ref 1000] hp = some ((11, yX11_waits, cX11_waits, 4, some .int, 3, 0), [.ref 1000, .int (xs (i + 1)), .int (xs (i + 2)), .int (xs (i + 3))], []) from zcV_ok (b := 1000) (As := [.int (xs (i + 1)), .int (xs (i + 2)), .int (xs (i + 3))]) rfl hrx rfl rfl rfl) hx ?_
  refine zGo_s (pc' := 698) (st' := [.ref 1132, .int v]) (yd (j := 1000) (ins := .aload_n 2) (len := 1) rfl rfl) rfl ?_
  refine zGo_s (pc' := 699) (st' := [.ref 62, .ref 1132, .int v]) (yd (j := 1000) (ins := .aload_n 0) (len := 1) rfl rfl) rfl ?_
  refine zGo_s (pc' := 700) (st' := [.int (nI i), .ref 62, .ref 1132, .int v]) (yd (j := 1000) (ins := .iload_n 3) (len := 1) rfl rfl) rfl ?_
  refine zGo_s (pc' := 701) (st' := [.int 1, .int (nI i), .ref 62, .ref 1132, .int v]) (yd (j := 1000) (ins := .iconst 1) (len := 1) rfl rfl) rfl ?_
  refine zGo_s (pc' := 702) (st' := [.int (nI i + 1), .ref 62, .ref 1132, .int v]) (yd (j := 1000) (ins := .iadd) (len := 1) rfl rfl) rfl ?_
  rw [e_1]
  refine zGo_xs (yd (j := 1000) (ins := .iaload) (len := 1) rfl rfl) h_1 ?_
  rw [n_1]
  refine zGo_s (pc' := 704) (st' := [.ref 62, .int (xs (i + 1)), .ref 1132, .int v]) (yd (j := 1000) (ins := .aload_n 0) (len := 1) rfl rfl) rfl ?_
  refine zGo_s (pc' := 705) (st' := [.int (nI i), .ref 62, .int (xs (i + 1)), .ref 1132, .int v]) (yd (j := 1000) (ins := .iload_n 3) (len := 1) rfl rfl) rfl ?_
  refine zGo_s (pc' := 706) (st' := [.int 2, .int (nI i), .ref 62, .int (xs (i + 1)), .ref 1132, .int v]) (yd (j := 1000) (ins := .iconst 2) (len := 1) rfl rfl) rfl ?_
  refine zGo_s (pc' := 707) (st' := [.int (nI i + 2), .ref 62, .int (xs (i + 1)), .ref 1132, .int v]) (yd (j := 1000) (ins := .iadd) (len := 1) rfl rfl) rfl ?_
  rw [e_2]
  refine zGo_xs (yd (j := 1000) (ins := .iaload) (len := 1) rfl rfl) h_2 ?_
  rw [n_2]
  refine zGo_s (pc' := 709) (st' := [.ref 62, .int (xs (i + 2)), .int (xs (i + 1)), .ref 1132, .int v]) (yd (j := 1000) (ins := .aload_n 0) (len := 1) rfl rfl) rfl ?_
  refine zGo_s (pc' := 710) (st' := [.int (nI i), .ref 62, .int (xs (i + 2)), .int (xs (i + 1)), .ref 1132, .int v]) (yd (j := 1000) (ins := .iload_n 3) (len := 1) rfl rfl) rfl ?_
  refine zGo_s (pc' := 711) (st' := [.int 3, .int (nI i), .ref 62, .int (xs (i + 2)), .int (xs (i + 1)), .ref 1132, .int v]) (yd (j := 1000) (ins := .iconst 3) (len := 1) rfl rfl) rfl ?_
  refine zGo_s (pc' := 712) (st' := [.int (nI i + 3), .ref 62, .int (xs (i + 2)), .int (xs (i + 1)), .ref 1132, .int v]) (yd (j := 1000) (ins := .iadd) (len := 1) rfl rfl) rfl ?_
  rw [e_3]
  refine zGo_xs (yd (j := 1000) (ins := .iaload) (len := 1) rfl rfl) h_3 ?_
  rw [n_3]
  refine zGo_call (d := 2047) (as := [.ref 1132, .int (xs (i + 1)), .int (xs (i + 2)), .int (xs (i + 3))]) (rest := [.int v]) (rv := some (.int v)) (q' := (13, yX13_waits, cX13_waits, 6, some .int, 3, 0)) (yd (j := 1000) (ins := .invokevirtual 96) (len := 3) rfl rfl) rfl rfl (show zcV (13, yX13_waits, cX13_waits, 6, some .int, 3, 0) [.int (xs (i + 3)), .int (xs (i + 2)), .int (xs (i + 1)), .ref 1132, .int v] hp1 = some ((13, yX13_waits, cX13_waits, 6, some .int, 3, 0), [.ref 1132, .int (xs (i + 1)), .int (xs (i + 2)), .int (xs (i + 3))], [.int v]) from zcV_ok (b := 1132) (As := [.int (xs (i + 1)), .int (xs (i + 2)), .int (xs (i + 3))]) rfl hrm rfl rfl rfl) hm ?_
  refine zGo_icmp (t := 866) (yd (j := 1000) (ins := .if_icmp .eq 150) (len := 3) rfl rfl) rfl (fun _ => ?_) (fun h9 => absurd rfl (of_decide_eq_false h9))
  exact h
set_option maxRecDepth 40000 in
set_option maxHeartbeats 4000000 in
theorem law_schedule {fz : Bool} {L : Nat} {xs : Nat → Int32} {i c z c1 z1 c2 z2 : Nat} {hp hp1 hp2 : List PE} {v : Int32} {r : zR} (hi : i + 3 < L) (hL : L < 2 ^ 30) (hrx : zrcv 11 hp 1000 = true) (hrm : zrcv 13 hp1 1132 = true) (hx : zGo (zX fz L xs) 2047 (11, yX11_schedule, cX11_schedule, 4, some .int, 3, 0) (0, lv_args 0 [.ref 1000, .int (xs (i + 1)), .int (xs (i + 2)), .int (xs (i + 3))], [], hp, 0, 0) (some (.int v), hp1, c1, z1)) (hm : zGo (zX fz L xs) 2047 (13, yX13_schedule, cX13_schedule, 5, some .int, 3, 0) (0, lv_args 0 [.ref 1132, .int (xs (i + 1)), .int (xs (i + 2)), .int (xs (i + 3))], [], hp1, 0, 0) (some (.int v), hp2, c2, z2)) (h : zGo (zX fz L xs) 2048 zLaw (866, [(0, .ref 62), (1, .ref 1000), (2, .ref 1132), (3, .int (nI i))], [], hp2, c + c1 + c2, z + z1 + z2) r) : zGo (zX fz L xs) 2048 zLaw (721, [(0, .ref 62), (1, .ref 1000), (2, .ref 1132), (3, .int (nI i))], [], hp, c, z) r := by
  have e_1 : nI i + 1 = nI (i + 1) := nI_add i 1
  have h_1 : zin? (nI (i + 1)) L = true := zin?_nI (by omega) (by omega)
  have n_1 : (nI (i + 1)).toNatClampNeg = i + 1 := nI_clamp (by omega)
  have e_2 : nI i + 2 = nI (i + 2) := nI_add i 2
  have h_2 : zin? (nI (i + 2)) L = true := zin?_nI (by omega) (by omega)
  have n_2 : (nI (i + 2)).toNatClampNeg = i + 2 := nI_clamp (by omega)
  have e_3 : nI i + 3 = nI (i + 3) := nI_add i 3
  have h_3 : zin? (nI (i + 3)) L = true := zin?_nI (by omega) (by omega)
  have n_3 : (nI (i + 3)).toNatClampNeg = i + 3 := nI_clamp (by omega)
  refine zGo_s (pc' := 722) (st' := [.ref 1000]) (yd (j := 1000) (ins := .aload_n 1) (len := 1) rfl rfl) rfl ?_
  refine zGo_s (pc' := 723) (st' := [.ref 62, .ref 1000]) (yd (j := 1000) (ins := .aload_n 0) (len := 1) rfl rfl) rfl ?_
  refine zGo_s (pc' := 724) (st' := [.int (nI i), .ref 62, .ref 1000]) (yd (j := 1000) (ins := .iload_n 3) (len := 1) rfl rfl) rfl ?_
  refine zGo_s (pc' := 725) (st' := [.int 1, .int (nI i), .ref 62, .ref 1000]) (yd (j := 1000) (ins := .iconst 1) (len := 1) rfl rfl) rfl ?_
  refine zGo_s (pc' := 726) (st' := [.int (nI i + 1), .ref 62, .ref 1000]) (yd (j := 1000) (ins := .iadd) (len := 1) rfl rfl) rfl ?_
  rw [e_1]
  refine zGo_xs (yd (j := 1000) (ins := .iaload) (len := 1) rfl rfl) h_1 ?_
  rw [n_1]
  refine zGo_s (pc' := 728) (st' := [.ref 62, .int (xs (i + 1)), .ref 1000]) (yd (j := 1000) (ins := .aload_n 0) (len := 1) rfl rfl) rfl ?_
  refine zGo_s (pc' := 729) (st' := [.int (nI i), .ref 62, .int (xs (i + 1)), .ref 1000]) (yd (j := 1000) (ins := .iload_n 3) (len := 1) rfl rfl) rfl ?_
  refine zGo_s (pc' := 730) (st' := [.int 2, .int (nI i), .ref 62, .int (xs (i + 1)), .ref 1000]) (yd (j := 1000) (ins := .iconst 2) (len := 1) rfl rfl) rfl ?_
  refine zGo_s (pc' := 731) (st' := [.int (nI i + 2), .ref 62, .int (xs (i + 1)), .ref 1000]) (yd (j := 1000) (ins := .iadd) (len := 1) rfl rfl) rfl ?_
  rw [e_2]
  refine zGo_xs (yd (j := 1000) (ins := .iaload) (len := 1) rfl rfl) h_2 ?_
  rw [n_2]
  refine zGo_s (pc' := 733) (st' := [.ref 62, .int (xs (i + 2)), .int (xs (i + 1)), .ref 1000]) (yd (j := 1000) (ins := .aload_n 0) (len := 1) rfl rfl) rfl ?_
  refine zGo_s (pc' := 734) (st' := [.int (nI i), .ref 62, .int (xs (i + 2)), .int (xs (i + 1)), .ref 1000]) (yd (j := 1000) (ins := .iload_n 3) (len := 1) rfl rfl) rfl ?_
  refine zGo_s (pc' := 735) (st' := [.int 3, .int (nI i), .ref 62, .int (xs (i + 2)), .int (xs (i + 1)), .ref 1000]) (yd (j := 1000) (ins := .iconst 3) (len := 1) rfl rfl) rfl ?_
  refine zGo_s (pc' := 736) (st' := [.int (nI i + 3), .ref 62, .int (xs (i + 2)), .int (xs (i + 1)), .ref 1000]) (yd (j := 1000) (ins := .iadd) (len := 1) rfl rfl) rfl ?_
  rw [e_3]
  refine zGo_xs (yd (j := 1000) (ins := .iaload) (len := 1) rfl rfl) h_3 ?_
  rw [n_3]
  refine zGo_call (d := 2047) (as := [.ref 1000, .int (xs (i + 1)), .int (xs (i + 2)), .int (xs (i + 3))]) (rest := []) (rv := some (.int v)) (q' := (11, yX11_schedule, cX11_schedule, 4, some .int, 3, 0)) (yd (j := 1000) (ins := .invokevirtual 97) (len := 3) rfl rfl) rfl rfl (show zcV (11, yX11_schedule, cX11_schedule, 4, some .int, 3, 0) [.int (xs (i + 3)), .int (xs (i + 2)), .int (xs (i + 1)), .ref 1000] hp = some ((11, yX11_schedule, cX11_schedule, 4, some .int, 3, 0), [.ref 1000, .int (xs (i + 1)), .int (xs (i + 2)), .int (xs (i + 3))], []) from zcV_ok (b := 1000) (As := [.int (xs (i + 1)), .int (xs (i + 2)), .int (xs (i + 3))]) rfl hrx rfl rfl rfl) hx ?_
  refine zGo_s (pc' := 741) (st' := [.ref 1132, .int v]) (yd (j := 1000) (ins := .aload_n 2) (len := 1) rfl rfl) rfl ?_
  refine zGo_s (pc' := 742) (st' := [.ref 62, .ref 1132, .int v]) (yd (j := 1000) (ins := .aload_n 0) (len := 1) rfl rfl) rfl ?_
  refine zGo_s (pc' := 743) (st' := [.int (nI i), .ref 62, .ref 1132, .int v]) (yd (j := 1000) (ins := .iload_n 3) (len := 1) rfl rfl) rfl ?_
  refine zGo_s (pc' := 744) (st' := [.int 1, .int (nI i), .ref 62, .ref 1132, .int v]) (yd (j := 1000) (ins := .iconst 1) (len := 1) rfl rfl) rfl ?_
  refine zGo_s (pc' := 745) (st' := [.int (nI i + 1), .ref 62, .ref 1132, .int v]) (yd (j := 1000) (ins := .iadd) (len := 1) rfl rfl) rfl ?_
  rw [e_1]
  refine zGo_xs (yd (j := 1000) (ins := .iaload) (len := 1) rfl rfl) h_1 ?_
  rw [n_1]
  refine zGo_s (pc' := 747) (st' := [.ref 62, .int (xs (i + 1)), .ref 1132, .int v]) (yd (j := 1000) (ins := .aload_n 0) (len := 1) rfl rfl) rfl ?_
  refine zGo_s (pc' := 748) (st' := [.int (nI i), .ref 62, .int (xs (i + 1)), .ref 1132, .int v]) (yd (j := 1000) (ins := .iload_n 3) (len := 1) rfl rfl) rfl ?_
  refine zGo_s (pc' := 749) (st' := [.int 2, .int (nI i), .ref 62, .int (xs (i + 1)), .ref 1132, .int v]) (yd (j := 1000) (ins := .iconst 2) (len := 1) rfl rfl) rfl ?_
  refine zGo_s (pc' := 750) (st' := [.int (nI i + 2), .ref 62, .int (xs (i + 1)), .ref 1132, .int v]) (yd (j := 1000) (ins := .iadd) (len := 1) rfl rfl) rfl ?_
  rw [e_2]
  refine zGo_xs (yd (j := 1000) (ins := .iaload) (len := 1) rfl rfl) h_2 ?_
  rw [n_2]
  refine zGo_s (pc' := 752) (st' := [.ref 62, .int (xs (i + 2)), .int (xs (i + 1)), .ref 1132, .int v]) (yd (j := 1000) (ins := .aload_n 0) (len := 1) rfl rfl) rfl ?_
  refine zGo_s (pc' := 753) (st' := [.int (nI i), .ref 62, .int (xs (i + 2)), .int (xs (i + 1)), .ref 1132, .int v]) (yd (j := 1000) (ins := .iload_n 3) (len := 1) rfl rfl) rfl ?_
  refine zGo_s (pc' := 754) (st' := [.int 3, .int (nI i), .ref 62, .int (xs (i + 2)), .int (xs (i + 1)), .ref 1132, .int v]) (yd (j := 1000) (ins := .iconst 3) (len := 1) rfl rfl) rfl ?_
  refine zGo_s (pc' := 755) (st' := [.int (nI i + 3), .ref 62, .int (xs (i + 2)), .int (xs (i + 1)), .ref 1132, .int v]) (yd (j := 1000) (ins := .iadd) (len := 1) rfl rfl) rfl ?_
  rw [e_3]
  refine zGo_xs (yd (j := 1000) (ins := .iaload) (len := 1) rfl rfl) h_3 ?_
  rw [n_3]
  refine zGo_call (d := 2047) (as := [.ref 1132, .int (xs (i + 1)), .int (xs (i + 2)), .int (xs (i + 3))]) (rest := [.int v]) (rv := some (.int v)) (q' := (13, yX13_schedule, cX13_schedule, 5, some .int, 3, 0)) (yd (j := 1000) (ins := .invokevirtual 100) (len := 3) rfl rfl) rfl rfl (show zcV (13, yX13_schedule, cX13_schedule, 5, some .int, 3, 0) [.int (xs (i + 3)), .int (xs (i + 2)), .int (xs (i + 1)), .ref 1132, .int v] hp1 = some ((13, yX13_schedule, cX13_schedule, 5, some .int, 3, 0), [.ref 1132, .int (xs (i + 1)), .int (xs (i + 2)), .int (xs (i + 3))], [.int v]) from zcV_ok (b := 1132) (As := [.int (xs (i + 1)), .int (xs (i + 2)), .int (xs (i + 3))]) rfl hrm rfl rfl rfl) hm ?_
  refine zGo_icmp (t := 866) (yd (j := 1000) (ins := .if_icmp .eq 107) (len := 3) rfl rfl) rfl (fun _ => ?_) (fun h9 => absurd rfl (of_decide_eq_false h9))
  exact h
set_option maxRecDepth 40000 in
set_option maxHeartbeats 4000000 in
theorem law_ring {fz : Bool} {L : Nat} {xs : Nat → Int32} {i c z c1 z1 c2 z2 : Nat} {hp hp1 hp2 : List PE} {v : Int32} {r : zR} (hi : i + 3 < L) (hL : L < 2 ^ 30) (hrx : zrcv 11 hp 1000 = true) (hrm : zrcv 13 hp1 1132 = true) (hx : zGo (zX fz L xs) 2047 (11, yX11_ring, cX11_ring, 2, some .int, 1, 0) (0, lv_args 0 [.ref 1000, .int (xs (i + 1))], [], hp, 0, 0) (some (.int v), hp1, c1, z1)) (hm : zGo (zX fz L xs) 2047 (13, yX13_ring, cX13_ring, 7, some .int, 1, 0) (0, lv_args 0 [.ref 1132, .int (xs (i + 1))], [], hp1, 0, 0) (some (.int v), hp2, c2, z2)) (h : zGo (zX fz L xs) 2048 zLaw (866, [(0, .ref 62), (1, .ref 1000), (2, .ref 1132), (3, .int (nI i))], [], hp2, c + c1 + c2, z + z1 + z2) r) : zGo (zX fz L xs) 2048 zLaw (764, [(0, .ref 62), (1, .ref 1000), (2, .ref 1132), (3, .int (nI i))], [], hp, c, z) r := by
  have e_1 : nI i + 1 = nI (i + 1) := nI_add i 1
  have h_1 : zin? (nI (i + 1)) L = true := zin?_nI (by omega) (by omega)
  have n_1 : (nI (i + 1)).toNatClampNeg = i + 1 := nI_clamp (by omega)
  have e_2 : nI i + 2 = nI (i + 2) := nI_add i 2
  have h_2 : zin? (nI (i + 2)) L = true := zin?_nI (by omega) (by omega)
  have n_2 : (nI (i + 2)).toNatClampNeg = i + 2 := nI_clamp (by omega)
  have e_3 : nI i + 3 = nI (i + 3) := nI_add i 3
  have h_3 : zin? (nI (i + 3)) L = true := zin?_nI (by omega) (by omega)
  have n_3 : (nI (i + 3)).toNatClampNeg = i + 3 := nI_clamp (by omega)
  refine zGo_s (pc' := 765) (st' := [.ref 1000]) (yd (j := 1000) (ins := .aload_n 1) (len := 1) rfl rfl) rfl ?_
  refine zGo_s (pc' := 766) (st' := [.ref 62, .ref 1000]) (yd (j := 1000) (ins := .aload_n 0) (len := 1) rfl rfl) rfl ?_
  refine zGo_s (pc' := 767) (st' := [.int (nI i), .ref 62, .ref 1000]) (yd (j := 1000) (ins := .iload_n 3) (len := 1) rfl rfl) rfl ?_
  refine zGo_s (pc' := 768) (st' := [.int 1, .int (nI i), .ref 62, .ref 1000]) (yd (j := 1000) (ins := .iconst 1) (len := 1) rfl rfl) rfl ?_
  refine zGo_s (pc' := 769) (st' := [.int (nI i + 1), .ref 62, .ref 1000]) (yd (j := 1000) (ins := .iadd) (len := 1) rfl rfl) rfl ?_
  rw [e_1]
  refine zGo_xs (yd (j := 1000) (ins := .iaload) (len := 1) rfl rfl) h_1 ?_
  rw [n_1]
  refine zGo_call (d := 2047) (as := [.ref 1000, .int (xs (i + 1))]) (rest := []) (rv := some (.int v)) (q' := (11, yX11_ring, cX11_ring, 2, some .int, 1, 0)) (yd (j := 1000) (ins := .invokevirtual 101) (len := 3) rfl rfl) rfl rfl (show zcV (11, yX11_ring, cX11_ring, 2, some .int, 1, 0) [.int (xs (i + 1)), .ref 1000] hp = some ((11, yX11_ring, cX11_ring, 2, some .int, 1, 0), [.ref 1000, .int (xs (i + 1))], []) from zcV_ok (b := 1000) (As := [.int (xs (i + 1))]) rfl hrx rfl rfl rfl) hx ?_
  refine zGo_s (pc' := 774) (st' := [.ref 1132, .int v]) (yd (j := 1000) (ins := .aload_n 2) (len := 1) rfl rfl) rfl ?_
  refine zGo_s (pc' := 775) (st' := [.ref 62, .ref 1132, .int v]) (yd (j := 1000) (ins := .aload_n 0) (len := 1) rfl rfl) rfl ?_
  refine zGo_s (pc' := 776) (st' := [.int (nI i), .ref 62, .ref 1132, .int v]) (yd (j := 1000) (ins := .iload_n 3) (len := 1) rfl rfl) rfl ?_
  refine zGo_s (pc' := 777) (st' := [.int 1, .int (nI i), .ref 62, .ref 1132, .int v]) (yd (j := 1000) (ins := .iconst 1) (len := 1) rfl rfl) rfl ?_
  refine zGo_s (pc' := 778) (st' := [.int (nI i + 1), .ref 62, .ref 1132, .int v]) (yd (j := 1000) (ins := .iadd) (len := 1) rfl rfl) rfl ?_
  rw [e_1]
  refine zGo_xs (yd (j := 1000) (ins := .iaload) (len := 1) rfl rfl) h_1 ?_
  rw [n_1]
  refine zGo_call (d := 2047) (as := [.ref 1132, .int (xs (i + 1))]) (rest := [.int v]) (rv := some (.int v)) (q' := (13, yX13_ring, cX13_ring, 7, some .int, 1, 0)) (yd (j := 1000) (ins := .invokevirtual 104) (len := 3) rfl rfl) rfl rfl (show zcV (13, yX13_ring, cX13_ring, 7, some .int, 1, 0) [.int (xs (i + 1)), .ref 1132, .int v] hp1 = some ((13, yX13_ring, cX13_ring, 7, some .int, 1, 0), [.ref 1132, .int (xs (i + 1))], [.int v]) from zcV_ok (b := 1132) (As := [.int (xs (i + 1))]) rfl hrm rfl rfl rfl) hm ?_
  refine zGo_icmp (t := 866) (yd (j := 1000) (ins := .if_icmp .eq 84) (len := 3) rfl rfl) rfl (fun _ => ?_) (fun h9 => absurd rfl (of_decide_eq_false h9))
  exact h
set_option maxRecDepth 40000 in
set_option maxHeartbeats 4000000 in
theorem law_logged {fz : Bool} {L : Nat} {xs : Nat → Int32} {i c z c1 z1 c2 z2 : Nat} {hp hp1 hp2 : List PE} {v : Int32} {r : zR} (hi : i + 3 < L) (hL : L < 2 ^ 30) (hrx : zrcv 11 hp 1000 = true) (hrm : zrcv 13 hp1 1132 = true) (hx : zGo (zX fz L xs) 2047 (11, yX11_logged, cX11_logged, 2, some .int, 1, 0) (0, lv_args 0 [.ref 1000, .int (xs (i + 1))], [], hp, 0, 0) (some (.int v), hp1, c1, z1)) (hm : zGo (zX fz L xs) 2047 (13, yX13_logged, cX13_logged, 2, some .int, 1, 0) (0, lv_args 0 [.ref 1132, .int (xs (i + 1))], [], hp1, 0, 0) (some (.int v), hp2, c2, z2)) (h : zGo (zX fz L xs) 2048 zLaw (866, [(0, .ref 62), (1, .ref 1000), (2, .ref 1132), (3, .int (nI i))], [], hp2, c + c1 + c2, z + z1 + z2) r) : zGo (zX fz L xs) 2048 zLaw (787, [(0, .ref 62), (1, .ref 1000), (2, .ref 1132), (3, .int (nI i))], [], hp, c, z) r := by
  have e_1 : nI i + 1 = nI (i + 1) := nI_add i 1
  have h_1 : zin? (nI (i + 1)) L = true := zin?_nI (by omega) (by omega)
  have n_1 : (nI (i + 1)).toNatClampNeg = i + 1 := nI_clamp (by omega)
  have e_2 : nI i + 2 = nI (i + 2) := nI_add i 2
  have h_2 : zin? (nI (i + 2)) L = true := zin?_nI (by omega) (by omega)
  have n_2 : (nI (i + 2)).toNatClampNeg = i + 2 := nI_clamp (by omega)
  have e_3 : nI i + 3 = nI (i + 3) := nI_add i 3
  have h_3 : zin? (nI (i + 3)) L = true := zin?_nI (by omega) (by omega)
  have n_3 : (nI (i + 3)).toNatClampNeg = i + 3 := nI_clamp (by omega)
  refine zGo_s (pc' := 788) (st' := [.ref 1000]) (yd (j := 1000) (ins := .aload_n 1) (len := 1) rfl rfl) rfl ?_
  refine zGo_s (pc' := 789) (st' := [.ref 62, .ref 1000]) (yd (j := 1000) (ins := .aload_n 0) (len := 1) rfl rfl) rfl ?_
  refine zGo_s (pc' := 790) (st' := [.int (nI i), .ref 62, .ref 1000]) (yd (j := 1000) (ins := .iload_n 3) (len := 1) rfl rfl) rfl ?_
  refine zGo_s (pc' := 791) (st' := [.int 1, .int (nI i), .ref 62, .ref 1000]) (yd (j := 1000) (ins := .iconst 1) (len := 1) rfl rfl) rfl ?_
  refine zGo_s (pc' := 792) (st' := [.int (nI i + 1), .ref 62, .ref 1000]) (yd (j := 1000) (ins := .iadd) (len := 1) rfl rfl) rfl ?_
  rw [e_1]
  refine zGo_xs (yd (j := 1000) (ins := .iaload) (len := 1) rfl rfl) h_1 ?_
  rw [n_1]
  refine zGo_call (d := 2047) (as := [.ref 1000, .int (xs (i + 1))]) (rest := []) (rv := some (.int v)) (q' := (11, yX11_logged, cX11_logged, 2, some .int, 1, 0)) (yd (j := 1000) (ins := .invokevirtual 105) (len := 3) rfl rfl) rfl rfl (show zcV (11, yX11_logged, cX11_logged, 2, some .int, 1, 0) [.int (xs (i + 1)), .ref 1000] hp = some ((11, yX11_logged, cX11_logged, 2, some .int, 1, 0), [.ref 1000, .int (xs (i + 1))], []) from zcV_ok (b := 1000) (As := [.int (xs (i + 1))]) rfl hrx rfl rfl rfl) hx ?_
  refine zGo_s (pc' := 797) (st' := [.ref 1132, .int v]) (yd (j := 1000) (ins := .aload_n 2) (len := 1) rfl rfl) rfl ?_
  refine zGo_s (pc' := 798) (st' := [.ref 62, .ref 1132, .int v]) (yd (j := 1000) (ins := .aload_n 0) (len := 1) rfl rfl) rfl ?_
  refine zGo_s (pc' := 799) (st' := [.int (nI i), .ref 62, .ref 1132, .int v]) (yd (j := 1000) (ins := .iload_n 3) (len := 1) rfl rfl) rfl ?_
  refine zGo_s (pc' := 800) (st' := [.int 1, .int (nI i), .ref 62, .ref 1132, .int v]) (yd (j := 1000) (ins := .iconst 1) (len := 1) rfl rfl) rfl ?_
  refine zGo_s (pc' := 801) (st' := [.int (nI i + 1), .ref 62, .ref 1132, .int v]) (yd (j := 1000) (ins := .iadd) (len := 1) rfl rfl) rfl ?_
  rw [e_1]
  refine zGo_xs (yd (j := 1000) (ins := .iaload) (len := 1) rfl rfl) h_1 ?_
  rw [n_1]
  refine zGo_call (d := 2047) (as := [.ref 1132, .int (xs (i + 1))]) (rest := [.int v]) (rv := some (.int v)) (q' := (13, yX13_logged, cX13_logged, 2, some .int, 1, 0)) (yd (j := 1000) (ins := .invokevirtual 108) (len := 3) rfl rfl) rfl rfl (show zcV (13, yX13_logged, cX13_logged, 2, some .int, 1, 0) [.int (xs (i + 1)), .ref 1132, .int v] hp1 = some ((13, yX13_logged, cX13_logged, 2, some .int, 1, 0), [.ref 1132, .int (xs (i + 1))], [.int v]) from zcV_ok (b := 1132) (As := [.int (xs (i + 1))]) rfl hrm rfl rfl rfl) hm ?_
  refine zGo_icmp (t := 866) (yd (j := 1000) (ins := .if_icmp .eq 61) (len := 3) rfl rfl) rfl (fun _ => ?_) (fun h9 => absurd rfl (of_decide_eq_false h9))
  exact h
set_option maxRecDepth 40000 in
set_option maxHeartbeats 4000000 in
theorem law_induced {fz : Bool} {L : Nat} {xs : Nat → Int32} {i c z c1 z1 c2 z2 : Nat} {hp hp1 hp2 : List PE} {v : Int32} {r : zR} (hi : i + 3 < L) (hL : L < 2 ^ 30) (hrx : zrcv 11 hp 1000 = true) (hrm : zrcv 13 hp1 1132 = true) (hx : zGo (zX fz L xs) 2047 (11, yX11_induced, cX11_induced, 3, some .int, 2, 0) (0, lv_args 0 [.ref 1000, .int (xs (i + 1)), .int (xs (i + 2))], [], hp, 0, 0) (some (.int v), hp1, c1, z1)) (hm : zGo (zX fz L xs) 2047 (13, yX13_induced, cX13_induced, 3, some .int, 2, 0) (0, lv_args 0 [.ref 1132, .int (xs (i + 1)), .int (xs (i + 2))], [], hp1, 0, 0) (some (.int v), hp2, c2, z2)) (h : zGo (zX fz L xs) 2048 zLaw (866, [(0, .ref 62), (1, .ref 1000), (2, .ref 1132), (3, .int (nI i))], [], hp2, c + c1 + c2, z + z1 + z2) r) : zGo (zX fz L xs) 2048 zLaw (810, [(0, .ref 62), (1, .ref 1000), (2, .ref 1132), (3, .int (nI i))], [], hp, c, z) r := by
  have e_1 : nI i + 1 = nI (i + 1) := nI_add i 1
  have h_1 : zin? (nI (i + 1)) L = true := zin?_nI (by omega) (by omega)
  have n_1 : (nI (i + 1)).toNatClampNeg = i + 1 := nI_clamp (by omega)
  have e_2 : nI i + 2 = nI (i + 2) := nI_add i 2
  have h_2 : zin? (nI (i + 2)) L = true := zin?_nI (by omega) (by omega)
  have n_2 : (nI (i + 2)).toNatClampNeg = i + 2 := nI_clamp (by omega)
  have e_3 : nI i + 3 = nI (i + 3) := nI_add i 3
  have h_3 : zin? (nI (i + 3)) L = true := zin?_nI (by omega) (by omega)
  have n_3 : (nI (i + 3)).toNatClampNeg = i + 3 := nI_clamp (by omega)
  refine zGo_s (pc' := 811) (st' := [.ref 1000]) (yd (j := 1000) (ins := .aload_n 1) (len := 1) rfl rfl) rfl ?_
  refine zGo_s (pc' := 812) (st' := [.ref 62, .ref 1000]) (yd (j := 1000) (ins := .aload_n 0) (len := 1) rfl rfl) rfl ?_
  refine zGo_s (pc' := 813) (st' := [.int (nI i), .ref 62, .ref 1000]) (yd (j := 1000) (ins := .iload_n 3) (len := 1) rfl rfl) rfl ?_
  refine zGo_s (pc' := 814) (st' := [.int 1, .int (nI i), .ref 62, .ref 1000]) (yd (j := 1000) (ins := .iconst 1) (len := 1) rfl rfl) rfl ?_
  refine zGo_s (pc' := 815) (st' := [.int (nI i + 1), .ref 62, .ref 1000]) (yd (j := 1000) (ins := .iadd) (len := 1) rfl rfl) rfl ?_
  rw [e_1]
  refine zGo_xs (yd (j := 1000) (ins := .iaload) (len := 1) rfl rfl) h_1 ?_
  rw [n_1]
  refine zGo_s (pc' := 817) (st' := [.ref 62, .int (xs (i + 1)), .ref 1000]) (yd (j := 1000) (ins := .aload_n 0) (len := 1) rfl rfl) rfl ?_
  refine zGo_s (pc' := 818) (st' := [.int (nI i), .ref 62, .int (xs (i + 1)), .ref 1000]) (yd (j := 1000) (ins := .iload_n 3) (len := 1) rfl rfl) rfl ?_
  refine zGo_s (pc' := 819) (st' := [.int 2, .int (nI i), .ref 62, .int (xs (i + 1)), .ref 1000]) (yd (j := 1000) (ins := .iconst 2) (len := 1) rfl rfl) rfl ?_
  refine zGo_s (pc' := 820) (st' := [.int (nI i + 2), .ref 62, .int (xs (i + 1)), .ref 1000]) (yd (j := 1000) (ins := .iadd) (len := 1) rfl rfl) rfl ?_
  rw [e_2]
  refine zGo_xs (yd (j := 1000) (ins := .iaload) (len := 1) rfl rfl) h_2 ?_
  rw [n_2]
  refine zGo_call (d := 2047) (as := [.ref 1000, .int (xs (i + 1)), .int (xs (i + 2))]) (rest := []) (rv := some (.int v)) (q' := (11, yX11_induced, cX11_induced, 3, some .int, 2, 0)) (yd (j := 1000) (ins := .invokevirtual 109) (len := 3) rfl rfl) rfl rfl (show zcV (11, yX11_induced, cX11_induced, 3, some .int, 2, 0) [.int (xs (i + 2)), .int (xs (i + 1)), .ref 1000] hp = some ((11, yX11_induced, cX11_induced, 3, some .int, 2, 0), [.ref 1000, .int (xs (i + 1)), .int (xs (i + 2))], []) from zcV_ok (b := 1000) (As := [.int (xs (i + 1)), .int (xs (i + 2))]) rfl hrx rfl rfl rfl) hx ?_
  refine zGo_s (pc' := 825) (st' := [.ref 1132, .int v]) (yd (j := 1000) (ins := .aload_n 2) (len := 1) rfl rfl) rfl ?_
  refine zGo_s (pc' := 826) (st' := [.ref 62, .ref 1132, .int v]) (yd (j := 1000) (ins := .aload_n 0) (len := 1) rfl rfl) rfl ?_
  refine zGo_s (pc' := 827) (st' := [.int (nI i), .ref 62, .ref 1132, .int v]) (yd (j := 1000) (ins := .iload_n 3) (len := 1) rfl rfl) rfl ?_
  refine zGo_s (pc' := 828) (st' := [.int 1, .int (nI i), .ref 62, .ref 1132, .int v]) (yd (j := 1000) (ins := .iconst 1) (len := 1) rfl rfl) rfl ?_
  refine zGo_s (pc' := 829) (st' := [.int (nI i + 1), .ref 62, .ref 1132, .int v]) (yd (j := 1000) (ins := .iadd) (len := 1) rfl rfl) rfl ?_
  rw [e_1]
  refine zGo_xs (yd (j := 1000) (ins := .iaload) (len := 1) rfl rfl) h_1 ?_
  rw [n_1]
  refine zGo_s (pc' := 831) (st' := [.ref 62, .int (xs (i + 1)), .ref 1132, .int v]) (yd (j := 1000) (ins := .aload_n 0) (len := 1) rfl rfl) rfl ?_
  refine zGo_s (pc' := 832) (st' := [.int (nI i), .ref 62, .int (xs (i + 1)), .ref 1132, .int v]) (yd (j := 1000) (ins := .iload_n 3) (len := 1) rfl rfl) rfl ?_
  refine zGo_s (pc' := 833) (st' := [.int 2, .int (nI i), .ref 62, .int (xs (i + 1)), .ref 1132, .int v]) (yd (j := 1000) (ins := .iconst 2) (len := 1) rfl rfl) rfl ?_
  refine zGo_s (pc' := 834) (st' := [.int (nI i + 2), .ref 62, .int (xs (i + 1)), .ref 1132, .int v]) (yd (j := 1000) (ins := .iadd) (len := 1) rfl rfl) rfl ?_
  rw [e_2]
  refine zGo_xs (yd (j := 1000) (ins := .iaload) (len := 1) rfl rfl) h_2 ?_
  rw [n_2]
  refine zGo_call (d := 2047) (as := [.ref 1132, .int (xs (i + 1)), .int (xs (i + 2))]) (rest := [.int v]) (rv := some (.int v)) (q' := (13, yX13_induced, cX13_induced, 3, some .int, 2, 0)) (yd (j := 1000) (ins := .invokevirtual 112) (len := 3) rfl rfl) rfl rfl (show zcV (13, yX13_induced, cX13_induced, 3, some .int, 2, 0) [.int (xs (i + 2)), .int (xs (i + 1)), .ref 1132, .int v] hp1 = some ((13, yX13_induced, cX13_induced, 3, some .int, 2, 0), [.ref 1132, .int (xs (i + 1)), .int (xs (i + 2))], [.int v]) from zcV_ok (b := 1132) (As := [.int (xs (i + 1)), .int (xs (i + 2))]) rfl hrm rfl rfl rfl) hm ?_
  refine zGo_icmp (t := 866) (yd (j := 1000) (ins := .if_icmp .eq 28) (len := 3) rfl rfl) rfl (fun _ => ?_) (fun h9 => absurd rfl (of_decide_eq_false h9))
  exact h
set_option maxRecDepth 40000 in
set_option maxHeartbeats 4000000 in
theorem law_count {fz : Bool} {L : Nat} {xs : Nat → Int32} {i c z c1 z1 c2 z2 : Nat} {hp hp1 hp2 : List PE} {v : Int32} {r : zR} (hi : i + 3 < L) (hL : L < 2 ^ 30) (hrx : zrcv 11 hp 1000 = true) (hrm : zrcv 13 hp1 1132 = true) (hx : zGo (zX fz L xs) 2047 (11, yX11_count, cX11_count, 2, some .int, 1, 0) (0, lv_args 0 [.ref 1000, .int (xs (i + 1))], [], hp, 0, 0) (some (.int v), hp1, c1, z1)) (hm : zGo (zX fz L xs) 2047 (13, yX13_count, cX13_count, 2, some .int, 1, 0) (0, lv_args 0 [.ref 1132, .int (xs (i + 1))], [], hp1, 0, 0) (some (.int v), hp2, c2, z2)) (h : zGo (zX fz L xs) 2048 zLaw (866, [(0, .ref 62), (1, .ref 1000), (2, .ref 1132), (3, .int (nI i))], [], hp2, c + c1 + c2, z + z1 + z2) r) : zGo (zX fz L xs) 2048 zLaw (843, [(0, .ref 62), (1, .ref 1000), (2, .ref 1132), (3, .int (nI i))], [], hp, c, z) r := by
  have e_1 : nI i + 1 = nI (i + 1) := nI_add i 1
  have h_1 : zin? (nI (i + 1)) L = true := zin?_nI (by omega) (by omega)
  have n_1 : (nI (i + 1)).toNatClampNeg = i + 1 := nI_clamp (by omega)
  have e_2 : nI i + 2 = nI (i + 2) := nI_add i 2
  have h_2 : zin? (nI (i + 2)) L = true := zin?_nI (by omega) (by omega)
  have n_2 : (nI (i + 2)).toNatClampNeg = i + 2 := nI_clamp (by omega)
  have e_3 : nI i + 3 = nI (i + 3) := nI_add i 3
  have h_3 : zin? (nI (i + 3)) L = true := zin?_nI (by omega) (by omega)
  have n_3 : (nI (i + 3)).toNatClampNeg = i + 3 := nI_clamp (by omega)
  refine zGo_s (pc' := 844) (st' := [.ref 1000]) (yd (j := 1000) (ins := .aload_n 1) (len := 1) rfl rfl) rfl ?_
  refine zGo_s (pc' := 845) (st' := [.ref 62, .ref 1000]) (yd (j := 1000) (ins := .aload_n 0) (len := 1) rfl rfl) rfl ?_
  refine zGo_s (pc' := 846) (st' := [.int (nI i), .ref 62, .ref 1000]) (yd (j := 1000) (ins := .iload_n 3) (len := 1) rfl rfl) rfl ?_
  refine zGo_s (pc' := 847) (st' := [.int 1, .int (nI i), .ref 62, .ref 1000]) (yd (j := 1000) (ins := .iconst 1) (len := 1) rfl rfl) rfl ?_
  refine zGo_s (pc' := 848) (st' := [.int (nI i + 1), .ref 62, .ref 1000]) (yd (j := 1000) (ins := .iadd) (len := 1) rfl rfl) rfl ?_
  rw [e_1]
  refine zGo_xs (yd (j := 1000) (ins := .iaload) (len := 1) rfl rfl) h_1 ?_
  rw [n_1]
  refine zGo_call (d := 2047) (as := [.ref 1000, .int (xs (i + 1))]) (rest := []) (rv := some (.int v)) (q' := (11, yX11_count, cX11_count, 2, some .int, 1, 0)) (yd (j := 1000) (ins := .invokevirtual 113) (len := 3) rfl rfl) rfl rfl (show zcV (11, yX11_count, cX11_count, 2, some .int, 1, 0) [.int (xs (i + 1)), .ref 1000] hp = some ((11, yX11_count, cX11_count, 2, some .int, 1, 0), [.ref 1000, .int (xs (i + 1))], []) from zcV_ok (b := 1000) (As := [.int (xs (i + 1))]) rfl hrx rfl rfl rfl) hx ?_
  refine zGo_s (pc' := 853) (st' := [.ref 1132, .int v]) (yd (j := 1000) (ins := .aload_n 2) (len := 1) rfl rfl) rfl ?_
  refine zGo_s (pc' := 854) (st' := [.ref 62, .ref 1132, .int v]) (yd (j := 1000) (ins := .aload_n 0) (len := 1) rfl rfl) rfl ?_
  refine zGo_s (pc' := 855) (st' := [.int (nI i), .ref 62, .ref 1132, .int v]) (yd (j := 1000) (ins := .iload_n 3) (len := 1) rfl rfl) rfl ?_
  refine zGo_s (pc' := 856) (st' := [.int 1, .int (nI i), .ref 62, .ref 1132, .int v]) (yd (j := 1000) (ins := .iconst 1) (len := 1) rfl rfl) rfl ?_
  refine zGo_s (pc' := 857) (st' := [.int (nI i + 1), .ref 62, .ref 1132, .int v]) (yd (j := 1000) (ins := .iadd) (len := 1) rfl rfl) rfl ?_
  rw [e_1]
  refine zGo_xs (yd (j := 1000) (ins := .iaload) (len := 1) rfl rfl) h_1 ?_
  rw [n_1]
  refine zGo_call (d := 2047) (as := [.ref 1132, .int (xs (i + 1))]) (rest := [.int v]) (rv := some (.int v)) (q' := (13, yX13_count, cX13_count, 2, some .int, 1, 0)) (yd (j := 1000) (ins := .invokevirtual 116) (len := 3) rfl rfl) rfl rfl (show zcV (13, yX13_count, cX13_count, 2, some .int, 1, 0) [.int (xs (i + 1)), .ref 1132, .int v] hp1 = some ((13, yX13_count, cX13_count, 2, some .int, 1, 0), [.ref 1132, .int (xs (i + 1))], [.int v]) from zcV_ok (b := 1132) (As := [.int (xs (i + 1))]) rfl hrm rfl rfl rfl) hm ?_
  refine zGo_icmp (t := 866) (yd (j := 1000) (ins := .if_icmp .eq 5) (len := 3) rfl rfl) rfl (fun _ => ?_) (fun h9 => absurd rfl (of_decide_eq_false h9))
  exact h
