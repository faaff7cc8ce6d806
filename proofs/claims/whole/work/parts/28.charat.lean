/-! String.charAt, over my machine -/
section ZT2
variable {fz : Bool} {L : Nat} {xs : Nat → Int32} {d k : Nat} {hp : List PE} {i n : Int32} {f : Value}
/-- Preconditions.checkIndex -/
theorem g_pcheck (h0 : ¬ i < 0) (h1 : i < n) : zGo (zX fz L xs) d (23, yJ3_checkIndex_8e157, cJ3_checkIndex_8e157, 3, some .int, 3, 2) (0, [(0, .int i), (1, .int n), (2, f)], [], hp, 0, 0) (some (.int i), hp, 0, 0) := by
  refine zGo_s (pc' := 1) (st' := [.int i]) (yd (j := 8) (ins := .iload_n 0) (len := 1) rfl rfl) rfl ?_
  refine zGo_if (t := 9) (yd (j := 8) (ins := .ifCond .lt 8) (len := 3) rfl rfl) rfl (fun h => absurd (of_decide_eq_true h) h0) (fun _ => ?_)
  refine zGo_s (pc' := 5) (st' := [.int i]) (yd (j := 8) (ins := .iload_n 0) (len := 1) rfl rfl) rfl ?_
  refine zGo_s (pc' := 6) (st' := [.int n, .int i]) (yd (j := 8) (ins := .iload_n 1) (len := 1) rfl rfl) rfl ?_
  refine zGo_icmp (t := 16) (yd (j := 8) (ins := .if_icmp .lt 10) (len := 3) rfl rfl) rfl (fun _ => ?_) (fun h => absurd h1 (of_decide_eq_false h))
  refine zGo_s (pc' := 17) (st' := [.int i]) (yd (j := 8) (ins := .iload_n 0) (len := 1) rfl rfl) rfl ?_
  exact zGo_ret (yd (j := 8) (ins := .ireturn) (len := 1) rfl rfl) rfl rfl
/-- String.checkIndex -/
theorem g_scheck (h0 : ¬ i < 0) (h1 : i < n) : zGo (zX fz L xs) (d + 1) (20, yJ0_checkIndex_df160, cJ0_checkIndex_df160, 2, none, 2, 2) (0, [(0, .int i), (1, .int n)], [], hp, 0, 0) (none, hp, 0, 0) := by
  refine zGo_s (pc' := 1) (st' := [.int i]) (yd (j := 7) (ins := .iload_n 0) (len := 1) rfl rfl) rfl ?_
  refine zGo_s (pc' := 2) (st' := [.int n, .int i]) (yd (j := 7) (ins := .iload_n 1) (len := 1) rfl rfl) rfl ?_
  cases fz with
  | true =>
    refine zGo_s (pc' := 5) (st' := [.null, .int n, .int i]) (yd (j := 7) (ins := .getstatic 1053) (len := 3) rfl rfl) rfl ?_
    refine zGo_call (as := [.int i, .int n, .null]) (rest := []) (q' := (23, yJ3_checkIndex_8e157, cJ3_checkIndex_8e157, 3, some .int, 3, 2)) (yd (j := 7) (ins := .invokestatic 1059) (len := 3) rfl rfl) rfl rfl rfl (g_pcheck h0 h1) ?_
    refine zGo_s (pc' := 9) (st' := []) (yd (j := 7) (ins := .pop) (len := 1) rfl rfl) rfl ?_
    exact zGo_ret (yd (j := 7) (ins := .return_) (len := 1) rfl rfl) rfl rfl
  | false =>
    refine zGo_s (pc' := 5) (st' := [.ref 61, .int n, .int i]) (yd (j := 7) (ins := .getstatic 1053) (len := 3) rfl rfl) rfl ?_
    refine zGo_call (as := [.int i, .int n, .ref 61]) (rest := []) (q' := (23, yJ3_checkIndex_8e157, cJ3_checkIndex_8e157, 3, some .int, 3, 2)) (yd (j := 7) (ins := .invokestatic 1059) (len := 3) rfl rfl) rfl rfl rfl (g_pcheck h0 h1) ?_
    refine zGo_s (pc' := 9) (st' := []) (yd (j := 7) (ins := .pop) (len := 1) rfl rfl) rfl ?_
    exact zGo_ret (yd (j := 7) (ins := .return_) (len := 1) rfl rfl) rfl rfl
/-- the character of text k at a place -/
def zchr (k j : Nat) : Int32 := (((zbyt.getD k []).getD j 0 &&& (Int16.ofInt 255).toInt32).toUInt32 % 65536).toInt32
theorem zchr_c (k j : Nat) : (zchr k j).toUInt32.toUInt16.toUInt32.toInt32 = zchr k j := by
  have h := pk_nc ((zbyt.getD k []).getD j 0 &&& (Int16.ofInt 255).toInt32)
  exact Value.int.inj h
theorem zin?_lt (hk : k < 51) (hi : zin? i (zlen.getD k 0) = true) : ¬ i < 0 ∧ i < Int32.ofNat (zlen.getD k 0) := by
  have h1 := zin?_s hi
  obtain ⟨j, hj, rfl⟩ := vp_in_of h1 (zsLen hk)
  have hl := zsLen hk
  exact ⟨nI_pos (by omega), nI_lt hj hl⟩
/-- StringLatin1.charAt -/
theorem g_lchar (hk : k < 51) (hi : zin? i (zlen.getD k 0) = true) : zGo (zX fz L xs) (d + 2) (21, yJ1_charAt_3b067, cJ1_charAt_3b067, 2, some .char, 2, 2) (0, [(0, .ref (100 + k)), (1, .int i)], [], hp, 0, 0) (some (.int (zchr k i.toNatClampNeg)), hp, 0, 0) := by
  obtain ⟨h0, h1⟩ := zin?_lt hk hi
  refine zGo_s (pc' := 1) (st' := [.int i]) (yd (j := 6) (ins := .iload_n 1) (len := 1) rfl rfl) rfl ?_
  refine zGo_s (pc' := 2) (st' := [.ref (100 + k), .int i]) (yd (j := 6) (ins := .aload_n 0) (len := 1) rfl rfl) rfl ?_
  refine zGo_X (yd (j := 6) (ins := .arraylength) (len := 1) rfl rfl) rfl rfl rfl rfl ?_ rfl rfl rfl (zX_len 21 hk [.int i]) ?_
  · show zaL [.ref (100 + k), .int i] hp = none
    simp only [zaL, hget_k hk]
  refine zGo_call (d := d + 1) (as := [.int i, .int (Int32.ofNat (zlen.getD k 0))]) (rest := []) (rv := none) (q' := (20, yJ0_checkIndex_df160, cJ0_checkIndex_df160, 2, none, 2, 2)) (yd (j := 6) (ins := .invokestatic 9) (len := 3) rfl rfl) rfl rfl rfl (g_scheck h0 h1) ?_
  refine zGo_s (pc' := 7) (st' := [.ref (100 + k)]) (yd (j := 6) (ins := .aload_n 0) (len := 1) rfl rfl) rfl ?_
  refine zGo_s (pc' := 8) (st' := [.int i, .ref (100 + k)]) (yd (j := 6) (ins := .iload_n 1) (len := 1) rfl rfl) rfl ?_
  refine zGo_X (yd (j := 6) (ins := .baload) (len := 1) rfl rfl) rfl rfl rfl rfl ?_ rfl rfl rfl (zX_byt 21 hk hi []) ?_
  · show zaI _ [.int i, .ref (100 + k)] hp = none
    simp only [zaI, hget_k hk]
  refine zGo_s (pc' := 12) (st' := [.int (Int16.ofInt 255).toInt32, .int ((zbyt.getD k []).getD i.toNatClampNeg 0)]) (yd (j := 6) (ins := .sipush 255) (len := 3) rfl rfl) rfl ?_
  refine zGo_s (pc' := 13) (st' := [.int ((zbyt.getD k []).getD i.toNatClampNeg 0 &&& (Int16.ofInt 255).toInt32)]) (yd (j := 6) (ins := .iand) (len := 1) rfl rfl) rfl ?_
  refine zGo_s (pc' := 14) (st' := [.int (zchr k i.toNatClampNeg)]) (yd (j := 6) (ins := .i2c) (len := 1) rfl rfl) rfl ?_
  refine zGo_ret (yd (j := 6) (ins := .ireturn) (len := 1) rfl rfl) rfl ?_
  show (if (zchr k i.toNatClampNeg).toUInt32.toUInt16.toUInt32.toInt32 = zchr k i.toNatClampNeg then some (some (Value.int (zchr k i.toNatClampNeg))) else none) = _
  rw [if_pos (zchr_c k _)]
/-- String.charAt -/
theorem g_charAt (hk : k < 51) (hi : zin? i (zlen.getD k 0) = true) : zGo (zX fz L xs) (d + 3) (20, yJ0_charAt_5068e, cJ0_charAt_5068e, 2, some .char, 1, 0) (0, [(0, .ref k), (1, .int i)], [], hp, 0, 0) (some (.int (zchr k i.toNatClampNeg)), hp, 0, 0) := by
  refine zGo_s (pc' := 1) (st' := [.ref k]) (yd (j := 4) (ins := .aload_n 0) (len := 1) rfl rfl) rfl ?_
  refine zGo_call (d := d + 2) (as := [.ref k]) (rest := []) (q' := (20, yJ0_isLatin1_aae02, cJ0_isLatin1_aae02, 1, some .boolean, 0, 0)) (yd (j := 4) (ins := .invokevirtual 492) (len := 3) rfl rfl) rfl rfl ?_ (g_latin hk) ?_
  · show zcV (20, yJ0_isLatin1_aae02, cJ0_isLatin1_aae02, 1, some .boolean, 0, 0) [.ref k] hp = _
    simp only [zcV, List.drop, List.take, List.reverse_nil]
    rw [if_pos ⟨trivial, zrcv_s hk, rfl, rfl⟩]
  refine zGo_s (pc' := 7) (st' := []) (yd (j := 4) (ins := .ifCond .eq 12) (len := 3) rfl rfl) rfl ?_
  refine zGo_s (pc' := 8) (st' := [.ref k]) (yd (j := 4) (ins := .aload_n 0) (len := 1) rfl rfl) rfl ?_
  refine zGo_X (yd (j := 4) (ins := .getfield 9) (len := 3) rfl rfl) rfl rfl rfl rfl rfl rfl rfl rfl (zX_val hk []) ?_
  refine zGo_s (pc' := 12) (st' := [.int i, .ref (100 + k)]) (yd (j := 4) (ins := .iload_n 1) (len := 1) rfl rfl) rfl ?_
  refine zGo_call (d := d + 2) (as := [.ref (100 + k), .int i]) (rest := []) (q' := (21, yJ1_charAt_3b067, cJ1_charAt_3b067, 2, some .char, 2, 2)) (yd (j := 4) (ins := .invokestatic 495) (len := 3) rfl rfl) rfl rfl rfl (g_lchar hk hi) ?_
  refine zGo_ret (yd (j := 4) (ins := .ireturn) (len := 1) rfl rfl) rfl ?_
  show (if (zchr k i.toNatClampNeg).toUInt32.toUInt16.toUInt32.toInt32 = zchr k i.toNatClampNeg then some (some (Value.int (zchr k i.toNatClampNeg))) else none) = _
  rw [if_pos (zchr_c k _)]
end ZT2
