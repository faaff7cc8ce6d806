/-! contracts of the texts' methods, over my machine -/
theorem yd {j : Nat} {q : zMI} (hq : ymi j = some q) {pc len : Nat} {ins : Instr} (h : (yTb j).find? (fun e => e.1 == pc) = some (pc, ins, len)) : decode q.2.2.1 pc = .ok (ins, len) := by
  have h1 := List.all_eq_true.mp (yTb_ok hq) (pc, ins, len) (List.mem_of_find?_eq_some h)
  exact of_decide_eq_true h1
section ZG
variable {X : zXT} {d : Nat} {q : zMI} {ins : Instr} {len pc c z pc' c' z' : Nat} {lv lv' : List (Nat × Value)} {st st' : List Value} {hp hp' : List PE} {r : zR}
theorem zGo_s (hd : decode q.2.2.1 pc = .ok (ins, len)) (hs : zstep X d q ins len (pc, lv, st, hp, c, z) = some (pc', lv', st', hp', c', z')) (h : zGo X d q (pc', lv', st', hp', c', z') r) : zGo X d q (pc, lv, st, hp, c, z) r := zGo_step hd hs h
theorem zGo_X (hd : decode q.2.2.1 pc = .ok (ins, len)) (h1 : sStk ins st = none) (h2 : sLd ins lv st = none) (h3 : sSv ins q.2.2.2.1 lv st = none) (h4 : sBr ins len pc st = none) (h5 : sHp q.1 (q.2.2.2.2.2.2 == 1) ins st hp = none) (h6 : sCo q.1 ins st = none) (h7 : sNw q.1 ins st hp = none) (h8 : sOb q.1 ins st hp = none) (hx : X d q.1 ins st = some (len, st')) (h : zGo X d q (pc + len, lv, st', hp, c, z) r) : zGo X d q (pc, lv, st, hp, c, z) r := by
  refine zGo_step hd (x' := (pc + len, lv, st', hp, c, z)) ?_ h
  simp only [zstep, h1, h2, h3, h4, h5, h6, h7, h8, hx]
  exact if_pos rfl
theorem zGo_icmp {cd : Jvm.ClassFile.Cond} {off : Int} {x y : Int32} {t : Nat} (hd : decode q.2.2.1 pc = .ok (.if_icmp cd off, 3)) (ht : zjmp pc off = some t) (h1 : zcnd cd x y = true → zGo X d q (t, lv, st, hp, c, z) r) (h2 : zcnd cd x y = false → zGo X d q (pc + 3, lv, st, hp, c, z) r) : zGo X d q (pc, lv, .int y :: .int x :: st, hp, c, z) r := by
  cases hc : zcnd cd x y with
  | true =>
    refine zGo_step hd (x' := (t, lv, st, hp, c, z)) ?_ (h1 hc)
    simp only [zstep, sStk, sLd, sSv, sBr, zif, ht, hc, if_true]
  | false =>
    refine zGo_step hd (x' := (pc + 3, lv, st, hp, c, z)) ?_ (h2 hc)
    simp only [zstep, sStk, sLd, sSv, sBr, zif, ht, hc, if_true]
    rfl
theorem zGo_if {cd : Jvm.ClassFile.Cond} {off : Int} {x : Int32} {t : Nat} (hd : decode q.2.2.1 pc = .ok (.ifCond cd off, 3)) (ht : zjmp pc off = some t) (h1 : zcnd cd x 0 = true → zGo X d q (t, lv, st, hp, c, z) r) (h2 : zcnd cd x 0 = false → zGo X d q (pc + 3, lv, st, hp, c, z) r) : zGo X d q (pc, lv, .int x :: st, hp, c, z) r := by
  cases hc : zcnd cd x 0 with
  | true =>
    refine zGo_step hd (x' := (t, lv, st, hp, c, z)) ?_ (h1 hc)
    simp only [zstep, sStk, sLd, sSv, sBr, zif, ht, hc, if_true]
  | false =>
    refine zGo_step hd (x' := (pc + 3, lv, st, hp, c, z)) ?_ (h2 hc)
    simp only [zstep, sStk, sLd, sSv, sBr, zif, ht, hc, if_true]
    rfl
end ZG
theorem hget_ext {hp : List PE} {a : Nat} (h : a < zE) : hget hp a = none := if_pos h
section ZT
variable {fz : Bool} {L : Nat} {xs : Nat → Int32} {d k : Nat} {hp : List PE}
theorem zX_val (hk : k < 51) (st : List Value) : zX fz L xs d 20 (.getfield 9) (.ref k :: st) = some (3, .ref (100 + k) :: st) := by
  show zgx 20 9 (.ref k :: st) = _
  simp only [zgx]
  rw [if_pos ⟨trivial, hk⟩]
  rfl
theorem zX_cod (hk : k < 51) (st : List Value) : zX fz L xs d 20 (.getfield 15) (.ref k :: st) = some (3, .int 0 :: st) := by
  show zgx 20 15 (.ref k :: st) = _
  simp only [zgx]
  rw [if_pos ⟨trivial, hk⟩]
  rfl
theorem zX_len (cn : Nat) (hk : k < 51) (st : List Value) : zX fz L xs d cn .arraylength (.ref (100 + k) :: st) = some (1, .int (Int32.ofNat (zlen.getD k 0)) :: st) := by
  show zxl L (.ref (100 + k) :: st) = _
  simp only [zxl]
  rw [if_neg (show ¬ @Eq Nat (100 + k) 62 by omega), if_pos (show @LE.le Nat _ 100 (100 + k) ∧ @LT.lt Nat _ (100 + k) 151 from ⟨Nat.le_add_right _ _, by omega⟩), Nat.add_sub_cancel_left]
theorem zX_byt (cn : Nat) (hk : k < 51) {i : Int32} (hi : zin? i (zlen.getD k 0) = true) (st : List Value) : zX fz L xs d cn .baload (.int i :: .ref (100 + k) :: st) = some (1, .int ((zbyt.getD k []).getD i.toNatClampNeg 0) :: st) := by
  show zxb (.int i :: .ref (100 + k) :: st) = _
  simp only [zxb]
  rw [Nat.add_sub_cancel_left, if_pos ⟨Nat.le_add_right _ _, show @LT.lt Nat _ (100 + k) 151 by omega, hi⟩]
theorem hget_k (hk : k < 51) : hget hp (100 + k) = none := hget_ext (by unfold zE; omega)
/-- String.coder() -/
theorem g_coder (hk : k < 51) : zGo (zX fz L xs) d (20, yJ0_coder_7d493, cJ0_coder_7d493, 1, some .byte, 0, 0) (0, [(0, .ref k)], [], hp, 0, 0) (some (.int 0), hp, 0, 0) := by
  refine zGo_s (pc' := 3) (st' := [.int 1]) (yd (j := 3) (ins := .getstatic 38) (len := 3) rfl rfl) rfl ?_
  refine zGo_s (pc' := 6) (st' := []) (yd (j := 3) (ins := .ifCond .eq 10) (len := 3) rfl rfl) rfl ?_
  refine zGo_s (pc' := 7) (st' := [.ref k]) (yd (j := 3) (ins := .aload_n 0) (len := 1) rfl rfl) rfl ?_
  refine zGo_X (yd (j := 3) (ins := .getfield 15) (len := 3) rfl rfl) rfl rfl rfl rfl rfl rfl rfl rfl (zX_cod hk []) ?_
  refine zGo_s (pc' := 14) (st' := [.int 0]) (yd (j := 3) (ins := .goto 4) (len := 3) rfl rfl) rfl ?_
  exact zGo_ret (yd (j := 3) (ins := .ireturn) (len := 1) rfl rfl) rfl rfl
/-- String.isLatin1() -/
theorem g_latin (hk : k < 51) : zGo (zX fz L xs) d (20, yJ0_isLatin1_aae02, cJ0_isLatin1_aae02, 1, some .boolean, 0, 0) (0, [(0, .ref k)], [], hp, 0, 0) (some (.int 1), hp, 0, 0) := by
  refine zGo_s (pc' := 3) (st' := [.int 1]) (yd (j := 5) (ins := .getstatic 38) (len := 3) rfl rfl) rfl ?_
  refine zGo_s (pc' := 6) (st' := []) (yd (j := 5) (ins := .ifCond .eq 14) (len := 3) rfl rfl) rfl ?_
  refine zGo_s (pc' := 7) (st' := [.ref k]) (yd (j := 5) (ins := .aload_n 0) (len := 1) rfl rfl) rfl ?_
  refine zGo_X (yd (j := 5) (ins := .getfield 15) (len := 3) rfl rfl) rfl rfl rfl rfl rfl rfl rfl rfl (zX_cod hk []) ?_
  refine zGo_s (pc' := 13) (st' := []) (yd (j := 5) (ins := .ifCond .ne 7) (len := 3) rfl rfl) rfl ?_
  refine zGo_s (pc' := 14) (st' := [.int 1]) (yd (j := 5) (ins := .iconst 1) (len := 1) rfl rfl) rfl ?_
  refine zGo_s (pc' := 18) (st' := [.int 1]) (yd (j := 5) (ins := .goto 4) (len := 3) rfl rfl) rfl ?_
  exact zGo_ret (yd (j := 5) (ins := .ireturn) (len := 1) rfl rfl) rfl rfl
theorem zrcv_s (hk : k < 51) : zrcv 20 hp k = true := by
  unfold zrcv
  rw [hget_ext (by unfold zE; omega)]
  simp only [decide_true, Bool.true_and, decide_eq_true_eq]
  exact hk
/-- String.length() -/
theorem g_length (hk : k < 51) : zGo (zX fz L xs) (d + 1) (20, yJ0_length_8abf5, cJ0_length_8abf5, 1, some .int, 0, 0) (0, [(0, .ref k)], [], hp, 0, 0) (some (.int (Int32.ofNat (zlen.getD k 0))), hp, 0, 0) := by
  refine zGo_s (pc' := 1) (st' := [.ref k]) (yd (j := 2) (ins := .aload_n 0) (len := 1) rfl rfl) rfl ?_
  refine zGo_X (yd (j := 2) (ins := .getfield 9) (len := 3) rfl rfl) rfl rfl rfl rfl rfl rfl rfl rfl (zX_val hk []) ?_
  refine zGo_X (yd (j := 2) (ins := .arraylength) (len := 1) rfl rfl) rfl rfl rfl rfl ?_ rfl rfl rfl (zX_len 20 hk []) ?_
  · show zaL [.ref (100 + k)] hp = none
    simp only [zaL, hget_k hk]
  refine zGo_s (pc' := 6) (st' := [.ref k, .int (Int32.ofNat (zlen.getD k 0))]) (yd (j := 2) (ins := .aload_n 0) (len := 1) rfl rfl) rfl ?_
  refine zGo_call (as := [.ref k]) (rest := [.int (Int32.ofNat (zlen.getD k 0))]) (q' := (20, yJ0_coder_7d493, cJ0_coder_7d493, 1, some .byte, 0, 0)) (yd (j := 2) (ins := .invokevirtual 335) (len := 3) rfl rfl) rfl rfl ?_ (g_coder hk) ?_
  · show zcV (20, yJ0_coder_7d493, cJ0_coder_7d493, 1, some .byte, 0, 0) [.ref k, .int (Int32.ofNat (zlen.getD k 0))] hp = _
    simp only [zcV, List.drop, List.take, List.reverse_nil]
    rw [if_pos ⟨trivial, zrcv_s hk, rfl, rfl⟩]
  refine zGo_s (pc' := 10) (st' := [.int (Int32.ofNat (zlen.getD k 0) >>> (0 &&& 31))]) (yd (j := 2) (ins := .ishr) (len := 1) rfl rfl) rfl ?_
  rw [sb_shr0]
  exact zGo_ret (yd (j := 2) (ins := .ireturn) (len := 1) rfl rfl) rfl rfl
end ZT
