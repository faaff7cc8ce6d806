/-! String.indexOf -/
/-- the place of byte b in text k, from place i on, m places -/
def zixL (k : Nat) (b : Int32) : Nat → Nat → Int32
  | 0, _ => -1
  | m + 1, i => if (zbyt.getD k []).getD i 0 = b then nI i else zixL k b m (i + 1)
def zidx (k : Nat) (c : Int32) : Int32 := if c < 0 then -1 else if 255 < c then -1 else zixL k c.toInt8.toInt32 (zlen.getD k 0) 0
section ZIX
variable {fz : Bool} {L : Nat} {xs : Nat → Int32} {d k : Nat} {hp : List PE}
abbrev q_27 : zMI := (20, yJ0_indexOf_0f7a4, cJ0_indexOf_0f7a4, 2, some .int, 1, 0)
abbrev q_28 : zMI := (20, yJ0_indexOf_7cf53, cJ0_indexOf_7cf53, 3, some .int, 2, 0)
abbrev q_29 : zMI := (21, yJ1_indexOf_4cfef, cJ1_indexOf_4cfef, 4, some .int, 4, 2)
abbrev q_30 : zMI := (21, yJ1_canEncode_9a6ad, cJ1_canEncode_9a6ad, 1, some .boolean, 1, 2)
abbrev q_31 : zMI := (21, yJ1_indexOfChar_4cfef, cJ1_indexOfChar_4cfef, 6, some .int, 4, 2)
theorem dd27_0 : decode cJ0_indexOf_0f7a4 0 = .ok (.aload_n 0, 1) := by decide +kernel
theorem dd27_1 : decode cJ0_indexOf_0f7a4 1 = .ok (.iload_n 1, 1) := by decide +kernel
theorem dd27_2 : decode cJ0_indexOf_0f7a4 2 = .ok (.iconst 0, 1) := by decide +kernel
theorem dd27_3 : decode cJ0_indexOf_0f7a4 3 = .ok (.invokevirtual 633, 3) := by decide +kernel
theorem dd27_6 : decode cJ0_indexOf_0f7a4 6 = .ok (.ireturn, 1) := by decide +kernel
theorem dd28_0 : decode cJ0_indexOf_7cf53 0 = .ok (.aload_n 0, 1) := by decide +kernel
theorem dd28_1 : decode cJ0_indexOf_7cf53 1 = .ok (.invokevirtual 492, 3) := by decide +kernel
theorem dd28_4 : decode cJ0_indexOf_7cf53 4 = .ok (.ifCond .eq 19, 3) := by decide +kernel
theorem dd28_7 : decode cJ0_indexOf_7cf53 7 = .ok (.aload_n 0, 1) := by decide +kernel
theorem dd28_8 : decode cJ0_indexOf_7cf53 8 = .ok (.getfield 9, 3) := by decide +kernel
theorem dd28_11 : decode cJ0_indexOf_7cf53 11 = .ok (.iload_n 1, 1) := by decide +kernel
theorem dd28_12 : decode cJ0_indexOf_7cf53 12 = .ok (.iload_n 2, 1) := by decide +kernel
theorem dd28_13 : decode cJ0_indexOf_7cf53 13 = .ok (.aload_n 0, 1) := by decide +kernel
theorem dd28_14 : decode cJ0_indexOf_7cf53 14 = .ok (.invokevirtual 505, 3) := by decide +kernel
theorem dd28_17 : decode cJ0_indexOf_7cf53 17 = .ok (.invokestatic 637, 3) := by decide +kernel
theorem dd28_20 : decode cJ0_indexOf_7cf53 20 = .ok (.goto 16, 3) := by decide +kernel
theorem dd28_23 : decode cJ0_indexOf_7cf53 23 = .ok (.aload_n 0, 1) := by decide +kernel
theorem dd28_24 : decode cJ0_indexOf_7cf53 24 = .ok (.getfield 9, 3) := by decide +kernel
theorem dd28_27 : decode cJ0_indexOf_7cf53 27 = .ok (.iload_n 1, 1) := by decide +kernel
theorem dd28_28 : decode cJ0_indexOf_7cf53 28 = .ok (.iload_n 2, 1) := by decide +kernel
theorem dd28_29 : decode cJ0_indexOf_7cf53 29 = .ok (.aload_n 0, 1) := by decide +kernel
theorem dd28_30 : decode cJ0_indexOf_7cf53 30 = .ok (.invokevirtual 505, 3) := by decide +kernel
theorem dd28_33 : decode cJ0_indexOf_7cf53 33 = .ok (.invokestatic 640, 3) := by decide +kernel
theorem dd28_36 : decode cJ0_indexOf_7cf53 36 = .ok (.ireturn, 1) := by decide +kernel
theorem dd29_0 : decode cJ1_indexOf_4cfef 0 = .ok (.iload_n 1, 1) := by decide +kernel
theorem dd29_1 : decode cJ1_indexOf_4cfef 1 = .ok (.invokestatic 88, 3) := by decide +kernel
theorem dd29_4 : decode cJ1_indexOf_4cfef 4 = .ok (.ifCond .ne 5, 3) := by decide +kernel
theorem dd29_7 : decode cJ1_indexOf_4cfef 7 = .ok (.iconst (-1), 1) := by decide +kernel
theorem dd29_8 : decode cJ1_indexOf_4cfef 8 = .ok (.ireturn, 1) := by decide +kernel
theorem dd29_9 : decode cJ1_indexOf_4cfef 9 = .ok (.iload_n 2, 1) := by decide +kernel
theorem dd29_10 : decode cJ1_indexOf_4cfef 10 = .ok (.iconst 0, 1) := by decide +kernel
theorem dd29_11 : decode cJ1_indexOf_4cfef 11 = .ok (.invokestatic 92, 3) := by decide +kernel
theorem dd29_14 : decode cJ1_indexOf_4cfef 14 = .ok (.istore_n 2, 1) := by decide +kernel
theorem dd29_15 : decode cJ1_indexOf_4cfef 15 = .ok (.iload_n 3, 1) := by decide +kernel
theorem dd29_16 : decode cJ1_indexOf_4cfef 16 = .ok (.aload_n 0, 1) := by decide +kernel
theorem dd29_17 : decode cJ1_indexOf_4cfef 17 = .ok (.arraylength, 1) := by decide +kernel
theorem dd29_18 : decode cJ1_indexOf_4cfef 18 = .ok (.invokestatic 38, 3) := by decide +kernel
theorem dd29_21 : decode cJ1_indexOf_4cfef 21 = .ok (.istore_n 3, 1) := by decide +kernel
theorem dd29_22 : decode cJ1_indexOf_4cfef 22 = .ok (.iload_n 2, 1) := by decide +kernel
theorem dd29_23 : decode cJ1_indexOf_4cfef 23 = .ok (.iload_n 3, 1) := by decide +kernel
theorem dd29_24 : decode cJ1_indexOf_4cfef 24 = .ok (.if_icmp .lt 5, 3) := by decide +kernel
theorem dd29_27 : decode cJ1_indexOf_4cfef 27 = .ok (.iconst (-1), 1) := by decide +kernel
theorem dd29_28 : decode cJ1_indexOf_4cfef 28 = .ok (.ireturn, 1) := by decide +kernel
theorem dd29_29 : decode cJ1_indexOf_4cfef 29 = .ok (.aload_n 0, 1) := by decide +kernel
theorem dd29_30 : decode cJ1_indexOf_4cfef 30 = .ok (.iload_n 1, 1) := by decide +kernel
theorem dd29_31 : decode cJ1_indexOf_4cfef 31 = .ok (.iload_n 2, 1) := by decide +kernel
theorem dd29_32 : decode cJ1_indexOf_4cfef 32 = .ok (.iload_n 3, 1) := by decide +kernel
theorem dd29_33 : decode cJ1_indexOf_4cfef 33 = .ok (.invokestatic 95, 3) := by decide +kernel
theorem dd29_36 : decode cJ1_indexOf_4cfef 36 = .ok (.ireturn, 1) := by decide +kernel
theorem dd30_0 : decode cJ1_canEncode_9a6ad 0 = .ok (.iload_n 0, 1) := by decide +kernel
theorem dd30_1 : decode cJ1_canEncode_9a6ad 1 = .ok (.ifCond .lt 14, 3) := by decide +kernel
theorem dd30_4 : decode cJ1_canEncode_9a6ad 4 = .ok (.iload_n 0, 1) := by decide +kernel
theorem dd30_5 : decode cJ1_canEncode_9a6ad 5 = .ok (.sipush 255, 3) := by decide +kernel
theorem dd30_8 : decode cJ1_canEncode_9a6ad 8 = .ok (.if_icmp .gt 7, 3) := by decide +kernel
theorem dd30_11 : decode cJ1_canEncode_9a6ad 11 = .ok (.iconst 1, 1) := by decide +kernel
theorem dd30_12 : decode cJ1_canEncode_9a6ad 12 = .ok (.goto 4, 3) := by decide +kernel
theorem dd30_15 : decode cJ1_canEncode_9a6ad 15 = .ok (.iconst 0, 1) := by decide +kernel
theorem dd30_16 : decode cJ1_canEncode_9a6ad 16 = .ok (.ireturn, 1) := by decide +kernel
theorem dd31_0 : decode cJ1_indexOfChar_4cfef 0 = .ok (.iload_n 1, 1) := by decide +kernel
theorem dd31_1 : decode cJ1_indexOfChar_4cfef 1 = .ok (.i2b, 1) := by decide +kernel
theorem dd31_2 : decode cJ1_indexOfChar_4cfef 2 = .ok (.istore 4, 2) := by decide +kernel
theorem dd31_4 : decode cJ1_indexOfChar_4cfef 4 = .ok (.iload_n 2, 1) := by decide +kernel
theorem dd31_5 : decode cJ1_indexOfChar_4cfef 5 = .ok (.istore 5, 2) := by decide +kernel
theorem dd31_7 : decode cJ1_indexOfChar_4cfef 7 = .ok (.iload 5, 2) := by decide +kernel
theorem dd31_9 : decode cJ1_indexOfChar_4cfef 9 = .ok (.iload_n 3, 1) := by decide +kernel
theorem dd31_10 : decode cJ1_indexOfChar_4cfef 10 = .ok (.if_icmp .ge 21, 3) := by decide +kernel
theorem dd31_13 : decode cJ1_indexOfChar_4cfef 13 = .ok (.aload_n 0, 1) := by decide +kernel
theorem dd31_14 : decode cJ1_indexOfChar_4cfef 14 = .ok (.iload 5, 2) := by decide +kernel
theorem dd31_16 : decode cJ1_indexOfChar_4cfef 16 = .ok (.baload, 1) := by decide +kernel
theorem dd31_17 : decode cJ1_indexOfChar_4cfef 17 = .ok (.iload 4, 2) := by decide +kernel
theorem dd31_19 : decode cJ1_indexOfChar_4cfef 19 = .ok (.if_icmp .ne 6, 3) := by decide +kernel
theorem dd31_22 : decode cJ1_indexOfChar_4cfef 22 = .ok (.iload 5, 2) := by decide +kernel
theorem dd31_24 : decode cJ1_indexOfChar_4cfef 24 = .ok (.ireturn, 1) := by decide +kernel
theorem dd31_25 : decode cJ1_indexOfChar_4cfef 25 = .ok (.iinc 5 1, 3) := by decide +kernel
theorem dd31_28 : decode cJ1_indexOfChar_4cfef 28 = .ok (.goto (-21), 3) := by decide +kernel
theorem dd31_31 : decode cJ1_indexOfChar_4cfef 31 = .ok (.iconst (-1), 1) := by decide +kernel
theorem dd31_32 : decode cJ1_indexOfChar_4cfef 32 = .ok (.ireturn, 1) := by decide +kernel
theorem g_canE (c : Int32) : zGo (zX fz L xs) d q_30 (0, [(0, .int c)], [], hp, 0, 0) (some (.int (if c < 0 then 0 else if 255 < c then 0 else 1)), hp, 0, 0) := by
  refine zGo_s (pc' := 1) (st' := [.int c]) dd30_0 rfl ?_
  by_cases h1 : c < 0
  · rw [if_pos h1]
    refine zUT dd30_1 rfl (kLtT h1) ?_
    refine zGo_s (pc' := 16) (st' := [.int 0]) dd30_15 rfl ?_
    exact zGo_ret dd30_16 rfl rfl
  · rw [if_neg h1]
    refine zUF dd30_1 (kLtF h1) ?_
    refine zGo_s (pc' := 5) (st' := [.int c]) dd30_4 rfl ?_
    refine zGo_s (pc' := 8) (st' := [.int 255, .int c]) dd30_5 rfl ?_
    by_cases h2 : 255 < c
    · rw [if_pos h2]
      refine zIT dd30_8 rfl (kGtT h2) ?_
      refine zGo_s (pc' := 16) (st' := [.int 0]) dd30_15 rfl ?_
      exact zGo_ret dd30_16 rfl rfl
    · rw [if_neg h2]
      refine zIF dd30_8 (kGtF h2) ?_
      refine zGo_s (pc' := 12) (st' := [.int 1]) dd30_11 rfl ?_
      refine zGo_s (pc' := 16) (st' := [.int 1]) dd30_12 rfl ?_
      exact zGo_ret dd30_16 rfl rfl
theorem g_ixL (hk : k < 51) (b : Int32) : ∀ (m i : Nat), i + m = zlen.getD k 0 → zGo (zX fz L xs) d q_31 (7, [(0, .ref (100 + k)), (3, .int (nI (zlen.getD k 0))), (4, .int b), (5, .int (nI i))], [], hp, 0, 0) (some (.int (zixL k b m i)), hp, 0, 0) := by
  intro m
  have hl := zsLen hk
  induction m with
  | zero =>
    intro i hi
    rw [← hi]
    refine zGo_s (pc' := 9) (st' := [.int (nI i)]) dd31_7 rfl ?_
    refine zGo_s (pc' := 10) (st' := [.int (nI (i + 0)), .int (nI i)]) dd31_9 rfl ?_
    refine zIT dd31_10 rfl (kGeT Int32.lt_irrefl) ?_
    refine zGo_s (pc' := 32) (st' := [.int (-1)]) dd31_31 rfl ?_
    exact zGo_ret dd31_32 rfl rfl
  | succ m ih =>
    intro i hi
    have hlt : nI i < nI (zlen.getD k 0) := nI_lt (by omega) hl
    have hin : zin? (nI i) (zlen.getD k 0) = true := zin?_nI (by omega) hl
    have hn : nx (nI i) = i := nI_clamp (by omega)
    refine zGo_s (pc' := 9) (st' := [.int (nI i)]) dd31_7 rfl ?_
    refine zGo_s (pc' := 10) (st' := [.int (nI (zlen.getD k 0)), .int (nI i)]) dd31_9 rfl ?_
    refine zIF dd31_10 (kGeF hlt) ?_
    refine zGo_s (pc' := 14) (st' := [.ref (100 + k)]) dd31_13 rfl ?_
    refine zGo_s (pc' := 16) (st' := [.int (nI i), .ref (100 + k)]) dd31_14 rfl ?_
    refine zGo_X dd31_16 rfl rfl rfl rfl ?_ rfl rfl rfl (zX_byt 21 hk hin []) ?_
    · show zaI _ [.int (nI i), .ref (100 + k)] hp = none
      simp only [zaI, hget_k hk]
    rw [show (nI i).toNatClampNeg = i from hn]
    refine zGo_s (pc' := 19) (st' := [.int b, .int ((zbyt.getD k []).getD i 0)]) dd31_17 rfl ?_
    show zGo _ _ _ _ (some (.int (if (zbyt.getD k []).getD i 0 = b then nI i else zixL k b m (i + 1))), hp, 0, 0)
    by_cases hc : (zbyt.getD k []).getD i 0 = b
    · rw [if_pos hc]
      refine zIF dd31_19 (kNeF hc) ?_
      refine zGo_s (pc' := 24) (st' := [.int (nI i)]) dd31_22 rfl ?_
      exact zGo_ret dd31_24 rfl rfl
    · rw [if_neg hc]
      refine zIT dd31_19 rfl (kNeT hc) ?_
      refine zGo_s (pc' := 28) (st' := []) (lv' := [(5, .int (nI i + 1)), (0, .ref (100 + k)), (3, .int (nI (zlen.getD k 0))), (4, .int b)]) dd31_25 rfl ?_
      refine zGo_s (pc' := 7) (st' := []) dd31_28 rfl ?_
      rw [nI_1]
      exact zGo_lv (lv := [(0, .ref (100 + k)), (3, .int (nI (zlen.getD k 0))), (4, .int b), (5, .int (nI (i + 1)))]) ⟨by simp, by simp, by simp⟩ (ih (i + 1) (by omega))
theorem g_ix (hk : k < 51) (c : Int32) : zGo (zX fz L xs) d q_31 (0, [(0, .ref (100 + k)), (1, .int c), (2, .int 0), (3, .int (nI (zlen.getD k 0)))], [], hp, 0, 0) (some (.int (zixL k c.toInt8.toInt32 (zlen.getD k 0) 0)), hp, 0, 0) := by
  refine zGo_s (pc' := 1) (st' := [.int c]) dd31_0 rfl ?_
  refine zGo_s (pc' := 2) (st' := [.int c.toInt8.toInt32]) dd31_1 rfl ?_
  refine zGo_s (pc' := 4) (st' := []) (lv' := [(4, .int c.toInt8.toInt32), (0, .ref (100 + k)), (1, .int c), (2, .int 0), (3, .int (nI (zlen.getD k 0)))]) dd31_2 rfl ?_
  refine zGo_s (pc' := 5) (st' := [.int 0]) dd31_4 rfl ?_
  refine zGo_s (pc' := 7) (st' := []) (lv' := [(5, .int 0), (4, .int c.toInt8.toInt32), (0, .ref (100 + k)), (1, .int c), (2, .int 0), (3, .int (nI (zlen.getD k 0)))]) dd31_5 rfl ?_
  exact zGo_lv (lv := [(0, .ref (100 + k)), (3, .int (nI (zlen.getD k 0))), (4, .int c.toInt8.toInt32), (5, .int (nI 0))]) ⟨by simp, by simp, by simp [nI_0]⟩ (g_ixL hk _ _ 0 (by omega))
theorem g_lix (hk : k < 51) (h0 : 0 < zlen.getD k 0) (c : Int32) : zGo (zX fz L xs) (d + 1) q_29 (0, [(0, .ref (100 + k)), (1, .int c), (2, .int 0), (3, .int (nI (zlen.getD k 0)))], [], hp, 0, 0) (some (.int (zidx k c)), hp, 0, 0) := by
  refine zGo_s (pc' := 1) (st' := [.int c]) dd29_0 rfl ?_
  refine zCS1 (As := [.int c]) (rest := []) (q' := q_30) dd29_1 rfl rfl rfl rfl rfl (g_canE c) ?_
  have hl := zsLen hk
  unfold zidx
  by_cases hE : c < 0 ∨ 255 < c
  · have e1 : (if c < 0 then (0 : Int32) else if 255 < c then 0 else 1) = 0 := by
      rcases hE with h | h
      · exact if_pos h
      · by_cases h1 : c < 0
        · exact if_pos h1
        · rw [if_neg h1, if_pos h]
    have e2 : (if c < 0 then (-1 : Int32) else if 255 < c then -1 else zixL k c.toInt8.toInt32 (zlen.getD k 0) 0) = -1 := by
      rcases hE with h | h
      · exact if_pos h
      · by_cases h1 : c < 0
        · exact if_pos h1
        · rw [if_neg h1, if_pos h]
    rw [e1, e2]
    refine zUF dd29_4 (kNeF rfl) ?_
    refine zGo_s (pc' := 8) (st' := [.int (-1)]) dd29_7 rfl ?_
    exact zGo_ret dd29_8 rfl rfl
  · have h1 : ¬ c < 0 := fun q => hE (Or.inl q)
    have h2 : ¬ 255 < c := fun q => hE (Or.inr q)
    rw [if_neg h1, if_neg h2, if_neg h1, if_neg h2]
    refine zUT dd29_4 rfl (kNeT (by decide)) ?_
    refine zGo_s (pc' := 10) (st' := [.int 0]) dd29_9 rfl ?_
    refine zGo_s (pc' := 11) (st' := [.int 0, .int 0]) dd29_10 rfl ?_
    refine zGo_mx dd29_11 rfl rfl ?_
    rw [if_neg Int32.lt_irrefl]
    refine zGo_s (pc' := 15) (st' := []) (lv' := [(2, .int 0), (0, .ref (100 + k)), (1, .int c), (3, .int (nI (zlen.getD k 0)))]) dd29_14 rfl ?_
    refine zGo_s (pc' := 16) (st' := [.int (nI (zlen.getD k 0))]) dd29_15 rfl ?_
    refine zGo_s (pc' := 17) (st' := [.ref (100 + k), .int (nI (zlen.getD k 0))]) dd29_16 rfl ?_
    refine zGo_X dd29_17 rfl rfl rfl rfl ?_ rfl rfl rfl (zX_len 21 hk [.int (nI (zlen.getD k 0))]) ?_
    · show zaL [.ref (100 + k), .int (nI (zlen.getD k 0))] hp = none
      simp only [zaL, hget_k hk]
    refine zGo_mn dd29_18 rfl rfl ?_
    rw [if_neg (show ¬ Int32.ofNat (zlen.getD k 0) < nI (zlen.getD k 0) from Int32.lt_irrefl)]
    refine zGo_s (pc' := 22) (st' := []) (lv' := [(3, .int (nI (zlen.getD k 0))), (2, .int 0), (0, .ref (100 + k)), (1, .int c)]) dd29_21 rfl ?_
    refine zGo_s (pc' := 23) (st' := [.int 0]) dd29_22 rfl ?_
    refine zGo_s (pc' := 24) (st' := [.int (nI (zlen.getD k 0)), .int 0]) dd29_23 rfl ?_
    refine zIT dd29_24 rfl (kLtT (by rw [← nI_0]; exact nI_lt h0 hl)) ?_
    refine zGo_s (pc' := 30) (st' := [.ref (100 + k)]) dd29_29 rfl ?_
    refine zGo_s (pc' := 31) (st' := [.int c, .ref (100 + k)]) dd29_30 rfl ?_
    refine zGo_s (pc' := 32) (st' := [.int 0, .int c, .ref (100 + k)]) dd29_31 rfl ?_
    refine zGo_s (pc' := 33) (st' := [.int (nI (zlen.getD k 0)), .int 0, .int c, .ref (100 + k)]) dd29_32 rfl ?_
    refine zCS1 (As := [.ref (100 + k), .int c, .int 0, .int (nI (zlen.getD k 0))]) (rest := []) (q' := q_31) dd29_33 rfl rfl rfl rfl rfl (g_ix hk c) ?_
    exact zGo_ret dd29_36 rfl rfl
/-- String.indexOf(int, int) from 0 -/
theorem g_ix2 (hk : k < 51) (h0 : 0 < zlen.getD k 0) (c : Int32) : zGo (zX fz L xs) (d + 2) q_28 (0, [(0, .ref k), (1, .int c), (2, .int 0)], [], hp, 0, 0) (some (.int (zidx k c)), hp, 0, 0) := by
  refine zGo_s (pc' := 1) (st' := [.ref k]) dd28_0 rfl ?_
  refine zCV1 (As := []) (rest := []) (b := k) (q' := (20, yJ0_isLatin1_aae02, cJ0_isLatin1_aae02, 1, some .boolean, 0, 0)) dd28_1 rfl rfl (zrcv_s hk) rfl rfl rfl (g_latin hk) ?_
  refine zUF dd28_4 (kEqF (by decide)) ?_
  refine zGo_s (pc' := 8) (st' := [.ref k]) dd28_7 rfl ?_
  refine zGo_X dd28_8 rfl rfl rfl rfl rfl rfl rfl rfl (zX_val hk []) ?_
  refine zGo_s (pc' := 12) (st' := [.int c, .ref (100 + k)]) dd28_11 rfl ?_
  refine zGo_s (pc' := 13) (st' := [.int 0, .int c, .ref (100 + k)]) dd28_12 rfl ?_
  refine zGo_s (pc' := 14) (st' := [.ref k, .int 0, .int c, .ref (100 + k)]) dd28_13 rfl ?_
  refine zCV1 (As := []) (rest := [.int 0, .int c, .ref (100 + k)]) (b := k) (q' := (20, yJ0_length_8abf5, cJ0_length_8abf5, 1, some .int, 0, 0)) dd28_14 rfl rfl (zrcv_s hk) rfl rfl rfl (g_length (d := d) hk) ?_
  refine zCS1 (As := [.ref (100 + k), .int c, .int 0, .int (nI (zlen.getD k 0))]) (rest := []) (q' := q_29) dd28_17 rfl rfl rfl rfl rfl (g_lix (d := d) hk h0 c) ?_
  refine zGo_s (pc' := 36) (st' := [.int (zidx k c)]) dd28_20 rfl ?_
  exact zGo_ret dd28_36 rfl rfl
theorem g_indexOf (hk : decide (k < 51 ∧ 0 < zlen.getD k 0) = true) (c : Int32) : zGo (zX fz L xs) (d + 3) q_27 (0, [(0, .ref k), (1, .int c)], [], hp, 0, 0) (some (.int (zidx k c)), hp, 0, 0) := by
  obtain ⟨h1, h2⟩ := of_decide_eq_true hk
  refine zGo_s (pc' := 1) (st' := [.ref k]) dd27_0 rfl ?_
  refine zGo_s (pc' := 2) (st' := [.int c, .ref k]) dd27_1 rfl ?_
  refine zGo_s (pc' := 3) (st' := [.int 0, .int c, .ref k]) dd27_2 rfl ?_
  refine zCV1 (As := [.int c, .int 0]) (rest := []) (b := k) (q' := q_28) dd27_3 rfl rfl (zrcv_s h1) rfl rfl rfl (g_ix2 (d := d) h1 h2 c) ?_
  exact zGo_ret dd27_6 rfl rfl
end ZIX
abbrev q_2 : zMI := (20, yJ0_length_8abf5, cJ0_length_8abf5, 1, some .int, 0, 0)
abbrev q_4 : zMI := (20, yJ0_charAt_5068e, cJ0_charAt_5068e, 2, some .char, 1, 0)
