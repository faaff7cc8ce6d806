/-! Scanner() -/
def zhS (J : Nat → Int64) : List PE := [.inr (11, [.null, .null, .null, .null, .null, .int 0, .int 0, .int 0]), .inr (5, [.ref 1002, .ref 1003, .int 0, .int 0, .int 3, .int 0, .int 0, .long 0]), .inl (1, (4000, .inl (fun _ => 0))), .inl (3, (47, .inr (.inl J)))]
/-- the words that Scanner() lays, after i characters: how many spaces, the row -/
def zwst : Nat → Nat × (Nat → Int64)
  | 0 => (0, fun _ => 0)
  | i + 1 => if zchr 0 i = 32 then ((zwst i).1 + 1, (zwst i).2) else if (zwst i).1 < 47 then ((zwst i).1, vp_updL (zwst i).2 (zwst i).1 (((zwst i).2 (zwst i).1 <<< ((8 : Int32).toInt64 &&& 63)) ||| (zchr 0 i).toInt64)) else zwst i
theorem zwst_le : ∀ i, (zwst i).1 ≤ i
  | 0 => Nat.le_refl 0
  | i + 1 => by
    have h := zwst_le i
    unfold zwst
    split
    · show (zwst i).1 + 1 ≤ i + 1
      omega
    · split
      · show (zwst i).1 ≤ i + 1
        omega
      · omega
section ZS
variable {fz : Bool} {L : Nat} {xs : Nat → Int32} {d : Nat}
set_option maxHeartbeats 4000000 in
theorem g_scanner_loop : ∀ (n i : Nat), i + n = 236 → zGo (zX fz L xs) (d + 4) (5, yX5_init, cX5_init, 4, none, 0, 1) (55, [(0, .ref 1001), (1, .int (nI (zwst i).1)), (2, .int (nI i))], [], zhS (zwst i).2, 2, 4047) (none, zhS (zwst 236).2, 2, 4047) := by
  intro n
  induction n with
  | zero =>
    intro i hi
    have hi : i = 236 := by omega
    subst hi
    refine zGo_s (pc' := 56) (st' := [.int (nI 236)]) (yd (j := 1) (ins := .iload_n 2) (len := 1) rfl rfl) rfl ?_
    refine zGo_s (pc' := 58) (st' := [.ref 0, .int (nI 236)]) (yd (j := 1) (ins := .ldc 39) (len := 2) rfl rfl) rfl ?_
    refine zGo_call (d := d + 3) (as := [.ref 0]) (rest := [.int (nI 236)]) (q' := (20, yJ0_length_8abf5, cJ0_length_8abf5, 1, some .int, 0, 0)) (yd (j := 1) (ins := .invokevirtual 41) (len := 3) rfl rfl) rfl rfl rfl (g_length (by decide)) ?_
    refine zGo_s (pc' := 113) (st' := []) (yd (j := 1) (ins := .if_icmp .ge 52) (len := 3) rfl rfl) rfl ?_
    exact zGo_ret (yd (j := 1) (ins := .return_) (len := 1) rfl rfl) rfl rfl
  | succ n ih =>
    intro i hi
    have hlt : i < 236 := by omega
    have hm := zwst_le i
    refine zGo_s (pc' := 56) (st' := [.int (nI i)]) (yd (j := 1) (ins := .iload_n 2) (len := 1) rfl rfl) rfl ?_
    refine zGo_s (pc' := 58) (st' := [.ref 0, .int (nI i)]) (yd (j := 1) (ins := .ldc 39) (len := 2) rfl rfl) rfl ?_
    refine zGo_call (d := d + 3) (as := [.ref 0]) (rest := [.int (nI i)]) (q' := (20, yJ0_length_8abf5, cJ0_length_8abf5, 1, some .int, 0, 0)) (yd (j := 1) (ins := .invokevirtual 41) (len := 3) rfl rfl) rfl rfl rfl (g_length (by decide)) ?_
    refine zGo_icmp (t := 113) (y := nI 236) (yd (j := 1) (ins := .if_icmp .ge 52) (len := 3) rfl rfl) rfl (fun h => absurd (of_decide_eq_true h) (nI_ge hlt (by decide))) (fun _ => ?_)
    refine zGo_s (pc' := 66) (st' := [.ref 0]) (yd (j := 1) (ins := .ldc 39) (len := 2) rfl rfl) rfl ?_
    refine zGo_s (pc' := 67) (st' := [.int (nI i), .ref 0]) (yd (j := 1) (ins := .iload_n 2) (len := 1) rfl rfl) rfl ?_
    have hin : zin? (nI i) (zlen.getD 0 0) = true := by
      unfold zin?
      rw [decide_eq_false (nI_pos (by omega)), nI_clamp (by omega), decide_eq_false (show ¬ zlen.getD 0 0 ≤ i from Nat.not_le.mpr hlt)]
      rfl
    refine zGo_call (d := d + 3) (as := [.ref 0, .int (nI i)]) (rest := []) (q' := (20, yJ0_charAt_5068e, cJ0_charAt_5068e, 2, some .char, 1, 0)) (yd (j := 1) (ins := .invokevirtual 46) (len := 3) rfl rfl) rfl rfl rfl (g_charAt (by decide) hin) ?_
    rw [nI_clamp (show i < 2 ^ 31 by omega)]
    generalize hcc : zchr 0 i = cc
    refine zGo_s (pc' := 71) (st' := []) (lv' := [(3, .int cc), (0, .ref 1001), (1, .int (nI (zwst i).1)), (2, .int (nI i))]) (yd (j := 1) (ins := .istore_n 3) (len := 1) rfl rfl) rfl ?_
    refine zGo_s (pc' := 72) (st' := [.int cc]) (yd (j := 1) (ins := .iload_n 3) (len := 1) rfl rfl) rfl ?_
    refine zGo_s (pc' := 74) (st' := [.int 32, .int cc]) (yd (j := 1) (ins := .bipush 32) (len := 2) rfl rfl) rfl ?_
    have hnext : i + 1 + n = 236 := by omega
    refine zGo_icmp (t := 83) (yd (j := 1) (ins := .if_icmp .ne 9) (len := 3) rfl rfl) rfl (fun h => ?_) (fun h => ?_)
    · have hne : ¬ cc = 32 := by
        intro e9
        rw [e9] at h
        exact absurd h (by decide)
      refine zGo_s (pc' := 84) (st' := [.int (nI (zwst i).1)]) (yd (j := 1) (ins := .iload_n 1) (len := 1) rfl rfl) rfl ?_
      refine zGo_s (pc' := 86) (st' := [.int 47, .int (nI (zwst i).1)]) (yd (j := 1) (ins := .bipush 47) (len := 2) rfl rfl) rfl ?_
      refine zGo_icmp (t := 107) (yd (j := 1) (ins := .if_icmp .ge 21) (len := 3) rfl rfl) rfl (fun h7 => ?_) (fun h7 => ?_)
      · have h8 : ¬ (zwst i).1 < 47 := fun q => absurd (of_decide_eq_true h7) (nI_ge (b := 47) q (by decide))
        refine zGo_s (pc' := 110) (st' := []) (lv' := [(2, .int (nI i + 1)), (3, .int cc), (0, .ref 1001), (1, .int (nI (zwst i).1))]) (yd (j := 1) (ins := .iinc 2 1) (len := 3) rfl rfl) rfl ?_
        refine zGo_s (pc' := 55) (st' := []) (yd (j := 1) (ins := .goto (-55)) (len := 3) rfl rfl) rfl ?_
        have e1 : zwst (i + 1) = zwst i := by
          show (if zchr 0 i = 32 then _ else if (zwst i).1 < 47 then _ else zwst i) = _
          rw [hcc, if_neg hne, if_neg h8]
        have hih := ih (i + 1) hnext
        rw [e1] at hih
        rw [nI_1]
        exact zGo_lv ⟨by simp, by simp, fun q hq => by simp at hq ⊢; rcases hq with h | h | h <;> simp [h, zwst, nI_0]⟩ hih
      · have h8 : (zwst i).1 < 47 := by
          rcases Nat.lt_or_ge (zwst i).1 47 with q | q
          · exact q
          · exact absurd (nI_le q (by omega)) (of_decide_eq_false h7)
        refine zGo_s (pc' := 90) (st' := [.ref 1001]) (yd (j := 1) (ins := .aload_n 0) (len := 1) rfl rfl) rfl ?_
        refine zGo_s (pc' := 93) (st' := [.ref 1003]) (yd (j := 1) (ins := .getfield 15) (len := 3) rfl rfl) rfl ?_
        refine zGo_s (pc' := 94) (st' := [.int (nI (zwst i).1), .ref 1003]) (yd (j := 1) (ins := .iload_n 1) (len := 1) rfl rfl) rfl ?_
        refine zGo_s (pc' := 95) (st' := [.ref 1001, .int (nI (zwst i).1), .ref 1003]) (yd (j := 1) (ins := .aload_n 0) (len := 1) rfl rfl) rfl ?_
        refine zGo_s (pc' := 98) (st' := [.ref 1003, .int (nI (zwst i).1), .ref 1003]) (yd (j := 1) (ins := .getfield 15) (len := 3) rfl rfl) rfl ?_
        refine zGo_s (pc' := 99) (st' := [.int (nI (zwst i).1), .ref 1003, .int (nI (zwst i).1), .ref 1003]) (yd (j := 1) (ins := .iload_n 1) (len := 1) rfl rfl) rfl ?_
        have hin2 : zin? (nI (zwst i).1) 47 = true := by
          unfold zin?
          rw [decide_eq_false (nI_pos (by omega)), nI_clamp (by omega), decide_eq_false (Nat.not_le.mpr h8)]
          rfl
        refine zGo_la (f := (zwst i).2) (n := 47) (yd (j := 1) (ins := .laload) (len := 1) rfl rfl) rfl hin2 ?_
        rw [nI_clamp (show (zwst i).1 < 2 ^ 31 by omega)]
        refine zGo_s (pc' := 102) (st' := [.int 8, .long ((zwst i).2 (zwst i).1), .int (nI (zwst i).1), .ref 1003]) (yd (j := 1) (ins := .bipush 8) (len := 2) rfl rfl) rfl ?_
        refine zGo_s (pc' := 103) (st' := [.long ((zwst i).2 (zwst i).1 <<< ((8 : Int32).toInt64 &&& 63)), .int (nI (zwst i).1), .ref 1003]) (yd (j := 1) (ins := .lshl) (len := 1) rfl rfl) rfl ?_
        refine zGo_s (pc' := 104) (st' := [.int cc, .long ((zwst i).2 (zwst i).1 <<< ((8 : Int32).toInt64 &&& 63)), .int (nI (zwst i).1), .ref 1003]) (yd (j := 1) (ins := .iload_n 3) (len := 1) rfl rfl) rfl ?_
        refine zGo_s (pc' := 105) (st' := [.long cc.toInt64, .long ((zwst i).2 (zwst i).1 <<< ((8 : Int32).toInt64 &&& 63)), .int (nI (zwst i).1), .ref 1003]) (yd (j := 1) (ins := .i2l) (len := 1) rfl rfl) rfl ?_
        refine zGo_s (pc' := 106) (st' := [.long (((zwst i).2 (zwst i).1 <<< ((8 : Int32).toInt64 &&& 63)) ||| cc.toInt64), .int (nI (zwst i).1), .ref 1003]) (yd (j := 1) (ins := .lor) (len := 1) rfl rfl) rfl ?_
        refine zGo_ls (f := (zwst i).2) (n := 47) (yd (j := 1) (ins := .lastore) (len := 1) rfl rfl) rfl hin2 ?_
        rw [nI_clamp (show (zwst i).1 < 2 ^ 31 by omega)]
        refine zGo_s (pc' := 110) (st' := []) (lv' := [(2, .int (nI i + 1)), (3, .int cc), (0, .ref 1001), (1, .int (nI (zwst i).1))]) (yd (j := 1) (ins := .iinc 2 1) (len := 3) rfl rfl) rfl ?_
        refine zGo_s (pc' := 55) (st' := []) (yd (j := 1) (ins := .goto (-55)) (len := 3) rfl rfl) rfl ?_
        have e1 : zwst (i + 1) = ((zwst i).1, vp_updL (zwst i).2 (zwst i).1 (((zwst i).2 (zwst i).1 <<< ((8 : Int32).toInt64 &&& 63)) ||| cc.toInt64)) := by
          show (if zchr 0 i = 32 then _ else if (zwst i).1 < 47 then _ else zwst i) = _
          rw [hcc, if_neg hne, if_pos h8]
        have hih := ih (i + 1) hnext
        rw [e1] at hih
        rw [nI_1]
        exact zGo_lv ⟨by simp, by simp, fun q hq => by simp at hq ⊢; rcases hq with h | h | h <;> simp [h, zwst, nI_0]⟩ hih
    · have heq : cc = 32 := by
        rcases Decidable.em (cc = 32) with e9 | e9
        · exact e9
        · exact absurd h (by show ¬ (!decide (cc = 32)) = false; rw [decide_eq_false e9]; decide)
      refine zGo_s (pc' := 80) (st' := []) (lv' := [(1, .int (nI (zwst i).1 + 1)), (3, .int cc), (0, .ref 1001), (2, .int (nI i))]) (yd (j := 1) (ins := .iinc 1 1) (len := 3) rfl rfl) rfl ?_
      refine zGo_s (pc' := 107) (st' := []) (yd (j := 1) (ins := .goto 27) (len := 3) rfl rfl) rfl ?_
      refine zGo_s (pc' := 110) (st' := []) (lv' := [(2, .int (nI i + 1)), (1, .int (nI (zwst i).1 + 1)), (3, .int cc), (0, .ref 1001)]) (yd (j := 1) (ins := .iinc 2 1) (len := 3) rfl rfl) rfl ?_
      refine zGo_s (pc' := 55) (st' := []) (yd (j := 1) (ins := .goto (-55)) (len := 3) rfl rfl) rfl ?_
      have e1 : zwst (i + 1) = ((zwst i).1 + 1, (zwst i).2) := by
        show (if zchr 0 i = 32 then _ else if (zwst i).1 < 47 then _ else zwst i) = _
        rw [hcc, if_pos heq]
      have hih := ih (i + 1) hnext
      rw [e1] at hih
      rw [nI_1, nI_1]
      exact zGo_lv ⟨by simp, by simp, fun q hq => by simp at hq ⊢; rcases hq with h | h | h <;> simp [h, zwst, nI_0]⟩ hih
set_option maxHeartbeats 4000000 in
theorem g_scanner : zGo (zX fz L xs) (d + 4) (5, yX5_init, cX5_init, 4, none, 0, 1) (0, [(0, .ref 1001)], [], [.inr (11, [.null, .null, .null, .null, .null, .int 0, .int 0, .int 0]), .inr (5, [.null, .null, .int 0, .int 0, .int 0, .int 0, .int 0, .long 0])], 0, 0) (none, zhS (zwst 236).2, 2, 4047) := by
  refine zGo_s (pc' := 1) (st' := [.ref 1001]) (yd (j := 1) (ins := .aload_n 0) (len := 1) rfl rfl) rfl ?_
  refine zGo_s (pc' := 4) (st' := []) (yd (j := 1) (ins := .invokespecial 3) (len := 3) rfl rfl) rfl ?_
  refine zGo_s (pc' := 5) (st' := [.ref 1001]) (yd (j := 1) (ins := .aload_n 0) (len := 1) rfl rfl) rfl ?_
  refine zGo_s (pc' := 8) (st' := [.int (4000), .ref 1001]) (yd (j := 1) (ins := .sipush 4000) (len := 3) rfl rfl) rfl ?_
  refine zGo_s (pc' := 10) (st' := [.ref 1002, .ref 1001]) (hp' := [.inr (11, [.null, .null, .null, .null, .null, .int 0, .int 0, .int 0]), .inr (5, [.null, .null, .int 0, .int 0, .int 0, .int 0, .int 0, .long 0]), .inl (1, (4000, .inl (fun _ => 0)))]) (c' := 1) (z' := 4000) (yd (j := 1) (ins := .newarray .byte) (len := 2) rfl rfl) rfl ?_
  refine zGo_s (pc' := 13) (st' := []) (hp' := [.inr (11, [.null, .null, .null, .null, .null, .int 0, .int 0, .int 0]), .inr (5, [.ref 1002, .null, .int 0, .int 0, .int 0, .int 0, .int 0, .long 0]), .inl (1, (4000, .inl (fun _ => 0)))]) (yd (j := 1) (ins := .putfield 9) (len := 3) rfl rfl) rfl ?_
  refine zGo_s (pc' := 14) (st' := [.ref 1001]) (yd (j := 1) (ins := .aload_n 0) (len := 1) rfl rfl) rfl ?_
  refine zGo_s (pc' := 16) (st' := [.int (47), .ref 1001]) (yd (j := 1) (ins := .bipush 47) (len := 2) rfl rfl) rfl ?_
  refine zGo_s (pc' := 18) (st' := [.ref 1003, .ref 1001]) (hp' := [.inr (11, [.null, .null, .null, .null, .null, .int 0, .int 0, .int 0]), .inr (5, [.ref 1002, .null, .int 0, .int 0, .int 0, .int 0, .int 0, .long 0]), .inl (1, (4000, .inl (fun _ => 0))), .inl (3, (47, .inr (.inl (fun _ => 0))))]) (c' := 2) (z' := 4047) (yd (j := 1) (ins := .newarray .long) (len := 2) rfl rfl) rfl ?_
  refine zGo_s (pc' := 21) (st' := []) (hp' := [.inr (11, [.null, .null, .null, .null, .null, .int 0, .int 0, .int 0]), .inr (5, [.ref 1002, .ref 1003, .int 0, .int 0, .int 0, .int 0, .int 0, .long 0]), .inl (1, (4000, .inl (fun _ => 0))), .inl (3, (47, .inr (.inl (fun _ => 0))))]) (yd (j := 1) (ins := .putfield 15) (len := 3) rfl rfl) rfl ?_
  refine zGo_s (pc' := 22) (st' := [.ref 1001]) (yd (j := 1) (ins := .aload_n 0) (len := 1) rfl rfl) rfl ?_
  refine zGo_s (pc' := 23) (st' := [.int (0), .ref 1001]) (yd (j := 1) (ins := .iconst 0) (len := 1) rfl rfl) rfl ?_
  refine zGo_s (pc' := 26) (st' := []) (hp' := [.inr (11, [.null, .null, .null, .null, .null, .int 0, .int 0, .int 0]), .inr (5, [.ref 1002, .ref 1003, .int (0), .int 0, .int 0, .int 0, .int 0, .long 0]), .inl (1, (4000, .inl (fun _ => 0))), .inl (3, (47, .inr (.inl (fun _ => 0))))]) (yd (j := 1) (ins := .putfield 19) (len := 3) rfl rfl) rfl ?_
  refine zGo_s (pc' := 27) (st' := [.ref 1001]) (yd (j := 1) (ins := .aload_n 0) (len := 1) rfl rfl) rfl ?_
  refine zGo_s (pc' := 28) (st' := [.int (0), .ref 1001]) (yd (j := 1) (ins := .iconst 0) (len := 1) rfl rfl) rfl ?_
  refine zGo_s (pc' := 31) (st' := []) (hp' := [.inr (11, [.null, .null, .null, .null, .null, .int 0, .int 0, .int 0]), .inr (5, [.ref 1002, .ref 1003, .int (0), .int (0), .int 0, .int 0, .int 0, .long 0]), .inl (1, (4000, .inl (fun _ => 0))), .inl (3, (47, .inr (.inl (fun _ => 0))))]) (yd (j := 1) (ins := .putfield 23) (len := 3) rfl rfl) rfl ?_
  refine zGo_s (pc' := 32) (st' := [.ref 1001]) (yd (j := 1) (ins := .aload_n 0) (len := 1) rfl rfl) rfl ?_
  refine zGo_s (pc' := 33) (st' := [.int (3), .ref 1001]) (yd (j := 1) (ins := .iconst 3) (len := 1) rfl rfl) rfl ?_
  refine zGo_s (pc' := 36) (st' := []) (hp' := [.inr (11, [.null, .null, .null, .null, .null, .int 0, .int 0, .int 0]), .inr (5, [.ref 1002, .ref 1003, .int (0), .int (0), .int (3), .int 0, .int 0, .long 0]), .inl (1, (4000, .inl (fun _ => 0))), .inl (3, (47, .inr (.inl (fun _ => 0))))]) (yd (j := 1) (ins := .putfield 26) (len := 3) rfl rfl) rfl ?_
  refine zGo_s (pc' := 37) (st' := [.ref 1001]) (yd (j := 1) (ins := .aload_n 0) (len := 1) rfl rfl) rfl ?_
  refine zGo_s (pc' := 38) (st' := [.int (0), .ref 1001]) (yd (j := 1) (ins := .iconst 0) (len := 1) rfl rfl) rfl ?_
  refine zGo_s (pc' := 41) (st' := []) (hp' := [.inr (11, [.null, .null, .null, .null, .null, .int 0, .int 0, .int 0]), .inr (5, [.ref 1002, .ref 1003, .int (0), .int (0), .int (3), .int (0), .int 0, .long 0]), .inl (1, (4000, .inl (fun _ => 0))), .inl (3, (47, .inr (.inl (fun _ => 0))))]) (yd (j := 1) (ins := .putfield 29) (len := 3) rfl rfl) rfl ?_
  refine zGo_s (pc' := 42) (st' := [.ref 1001]) (yd (j := 1) (ins := .aload_n 0) (len := 1) rfl rfl) rfl ?_
  refine zGo_s (pc' := 43) (st' := [.int (0), .ref 1001]) (yd (j := 1) (ins := .iconst 0) (len := 1) rfl rfl) rfl ?_
  refine zGo_s (pc' := 46) (st' := []) (hp' := [.inr (11, [.null, .null, .null, .null, .null, .int 0, .int 0, .int 0]), .inr (5, [.ref 1002, .ref 1003, .int (0), .int (0), .int (3), .int (0), .int (0), .long 0]), .inl (1, (4000, .inl (fun _ => 0))), .inl (3, (47, .inr (.inl (fun _ => 0))))]) (yd (j := 1) (ins := .putfield 32) (len := 3) rfl rfl) rfl ?_
  refine zGo_s (pc' := 47) (st' := [.ref 1001]) (yd (j := 1) (ins := .aload_n 0) (len := 1) rfl rfl) rfl ?_
  refine zGo_s (pc' := 48) (st' := [.long 0, .ref 1001]) (yd (j := 1) (ins := .lconst 0) (len := 1) rfl rfl) rfl ?_
  refine zGo_s (pc' := 51) (st' := []) (hp' := [.inr (11, [.null, .null, .null, .null, .null, .int 0, .int 0, .int 0]), .inr (5, [.ref 1002, .ref 1003, .int (0), .int (0), .int (3), .int (0), .int (0), .long 0]), .inl (1, (4000, .inl (fun _ => 0))), .inl (3, (47, .inr (.inl (fun _ => 0))))]) (yd (j := 1) (ins := .putfield 35) (len := 3) rfl rfl) rfl ?_
  refine zGo_s (pc' := 52) (st' := [.int (0)]) (yd (j := 1) (ins := .iconst 0) (len := 1) rfl rfl) rfl ?_
  refine zGo_s (pc' := 53) (st' := []) (lv' := [(1, .int (0)), (0, .ref 1001)]) (yd (j := 1) (ins := .istore_n 1) (len := 1) rfl rfl) rfl ?_
  refine zGo_s (pc' := 54) (st' := [.int (0)]) (yd (j := 1) (ins := .iconst 0) (len := 1) rfl rfl) rfl ?_
  refine zGo_s (pc' := 55) (st' := []) (lv' := [(2, .int (0)), (1, .int (0)), (0, .ref 1001)]) (yd (j := 1) (ins := .istore_n 2) (len := 1) rfl rfl) rfl ?_
  exact zGo_lv ⟨by simp, by simp, fun q hq => by simp at hq ⊢; rcases hq with h | h | h <;> simp [h, zwst, nI_0]⟩ (g_scanner_loop 236 0 rfl)
end ZS
