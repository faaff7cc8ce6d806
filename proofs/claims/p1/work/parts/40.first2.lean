/-! the first calls: find, item -/
theorem find_s {k : Int32} (h : pFind k = true) : ∃ h1 h2, yrun zXn 2000 40 36 (0, [(0, .ref 1060), (1, .int k)], [], pH2, 0, 0) = some (some (.int (-1)), h1, 0, 0) ∧ zrcv 13 h1 1132 = true ∧ yrun zXn 2000 40 206 (0, [(0, .ref 1132)], [], h1, 0, 0) = some (some (.int (-1)), h2, 0, 0) := by
  unfold pFind at h
  split at h
  · next x h1 e1 =>
    rw [Bool.and_eq_true] at h
    obtain ⟨hr, h⟩ := h
    split at h
    · next y h2 e2 =>
      rw [Bool.and_eq_true] at h
      have e8 := of_decide_eq_true h.1
      have e9 := of_decide_eq_true h.2
      subst e8
      subst e9
      exact ⟨_, _, e1, hr, e2⟩
    · cases h
  · cases h
theorem findO_s : (∃ h2, yrun zXn 2000 40 206 (0, [(0, .ref 1132)], [], pH2, 0, 0) = some (some (.int (-1)), h2, 0, 0)) ∧ ∃ fs, hget pH2 1000 = some (.inr (11, fs)) ∧ fs[3]? = some (.ref 1060) := by
  have h := pSegs_s.2.2.2.2.2.2
  unfold pFindO at h
  rw [Bool.and_eq_true, Bool.and_eq_true, Bool.and_eq_true, Bool.and_eq_true] at h
  obtain ⟨⟨⟨⟨ha, hb⟩, -⟩, -⟩, -⟩ := h
  refine ⟨?_, ?_⟩
  · split at ha
    · next y h2 e2 =>
      have e9 := of_decide_eq_true ha
      subst e9
      exact ⟨_, e2⟩
    · cases ha
  · split at hb
    · next fs e2 => exact ⟨fs, e2, of_decide_eq_true hb⟩
    · cases hb
theorem item_s : ∃ h1 fs, yrun zXn 2000 40 140 (0, [(0, .ref 1000)], [], pH2, 0, 0) = some (some (.int 0), h1, 0, 0) ∧ zrcv 13 h1 1132 = true ∧ hget h1 1132 = some (.inr (13, fs)) ∧ fs[17]? = some (.int 0) := by
  have h := pSegs_s.2.2.2.2.2.1
  unfold pItem at h
  split at h
  · next x h1 e1 =>
    rw [Bool.and_eq_true, Bool.and_eq_true] at h
    obtain ⟨⟨hr, h0⟩, h⟩ := h
    have e8 := of_decide_eq_true h0
    subst e8
    split at h
    · next fs e2 => exact ⟨h1, fs, e1, hr, e2, of_decide_eq_true h⟩
    · cases h
  · cases h
set_option maxHeartbeats 4000000 in
theorem k_find : zK_find pI pT := by
  intro a b hp hI
  have e0 : hp = pH2 := hI
  rw [e0]
  clear e0 hI
  obtain ⟨⟨g2, eO⟩, fs, hf, hf3⟩ := findO_s
  have hout : ¬ (¬ a < 0 ∧ a < 9) → ∃ hp2, pT hp2 ∧ zOp pH2 hp2 (11, yX11_find, cX11_find, 4, some .int, 2, 0) (13, yX13_find, cX13_find, 5, some .int, 2, 0) [.int a, .long b] := by
    intro hn
    refine ⟨g2, trivial, -1, pH2, pRc.2.1, fun fz L xs => ⟨?_, zGo_lv (lle_arg _ _) (zGo_of (zXn_le fz L xs) (j := 206) rfl (by omega) eO)⟩⟩
    have hend : zGo (zX fz L xs) 2047 (11, yX11_find, cX11_find, 4, some .int, 2, 0) (10, lv_args 0 [.ref 1000, .int a, .long b], [], pH2, 0, 0) (some (.int (-1)), pH2, 0, 0) := by
      refine zGo_s (pc' := 11) (st' := [.int (-1)]) (yd (j := 71) (ins := .iconst (-1)) (len := 1) rfl rfl) rfl ?_
      refine zGo_s (pc' := 23) (st' := [.int (-1)]) (yd (j := 71) (ins := .goto 12) (len := 3) rfl rfl) rfl ?_
      exact zGo_ret (yd (j := 71) (ins := .ireturn) (len := 1) rfl rfl) rfl rfl
    refine zGo_s (pc' := 1) (st' := [.int a]) (yd (j := 71) (ins := .iload_n 1) (len := 1) rfl rfl) rfl ?_
    refine zGo_if (t := 10) (yd (j := 71) (ins := .ifCond .lt 9) (len := 3) rfl rfl) rfl (fun _ => hend) (fun h0 => ?_)
    refine zGo_s (pc' := 5) (st' := [.int a]) (yd (j := 71) (ins := .iload_n 1) (len := 1) rfl rfl) rfl ?_
    refine zGo_s (pc' := 7) (st' := [.int 9, .int a]) (yd (j := 71) (ins := .bipush 9) (len := 2) rfl rfl) rfl ?_
    refine zGo_icmp (t := 14) (yd (j := 71) (ins := .if_icmp .lt 7) (len := 3) rfl rfl) rfl (fun h9 => absurd ⟨of_decide_eq_false h0, of_decide_eq_true h9⟩ hn) (fun _ => hend)
  by_cases hn : ¬ a < 0 ∧ a < 9
  · have h8 : a ≤ 8 := by
      have h9 := hn.2
      rw [Int32.lt_iff_toInt_lt] at h9
      rw [Int32.le_iff_toInt_le]
      have e1 : (9 : Int32).toInt = 9 := by decide
      have e2 : (8 : Int32).toInt = 8 := by decide
      omega
    obtain ⟨j, hj, rfl⟩ := nI_of2 (M := 8) (n := 8) (by decide) hn.1 h8
    have hm : nI j ∈ ([0, 1, 2, 3, 4, 5, 6, 7, 8] : List Int32) := by
      match j, hj with
      | 0, _ => decide
      | 1, _ => decide
      | 2, _ => decide
      | 3, _ => decide
      | 4, _ => decide
      | 5, _ => decide
      | 6, _ => decide
      | 7, _ => decide
      | 8, _ => decide
      | k + 9, hj => omega
    obtain ⟨h1, h2, e1, hr, e2⟩ := find_s (pSegs_s.2.2.2.2.1 _ hm)
    refine ⟨h2, trivial, -1, h1, hr, fun fz L xs => ⟨?_, zGo_lv (lle_arg _ _) (zGo_of (zXn_le fz L xs) (j := 206) rfl (by omega) e2)⟩⟩
    refine zGo_s (pc' := 1) (st' := [.int (nI j)]) (yd (j := 71) (ins := .iload_n 1) (len := 1) rfl rfl) rfl ?_
    refine zGo_if (t := 10) (yd (j := 71) (ins := .ifCond .lt 9) (len := 3) rfl rfl) rfl (fun h => absurd (of_decide_eq_true h) hn.1) (fun _ => ?_)
    refine zGo_s (pc' := 5) (st' := [.int (nI j)]) (yd (j := 71) (ins := .iload_n 1) (len := 1) rfl rfl) rfl ?_
    refine zGo_s (pc' := 7) (st' := [.int 9, .int (nI j)]) (yd (j := 71) (ins := .bipush 9) (len := 2) rfl rfl) rfl ?_
    refine zGo_icmp (t := 14) (yd (j := 71) (ins := .if_icmp .lt 7) (len := 3) rfl rfl) rfl (fun _ => ?_) (fun h => absurd hn.2 (of_decide_eq_false h))
    refine zGo_s (pc' := 15) (st' := [.ref 1000]) (yd (j := 71) (ins := .aload_n 0) (len := 1) rfl rfl) rfl ?_
    refine zGo_gf (ci := 11) (kf := 3) (yd (j := 71) (ins := .getfield 35) (len := 3) rfl rfl) rfl hf hf3 ?_
    refine zGo_s (pc' := 19) (st' := [.int (nI j), .ref 1060]) (yd (j := 71) (ins := .iload_n 1) (len := 1) rfl rfl) rfl ?_
    refine zGo_s (pc' := 20) (st' := [.long b, .int (nI j), .ref 1060]) (yd (j := 71) (ins := .lload_n 2) (len := 1) rfl rfl) rfl ?_
    refine zGo_call (d := 2046) (as := [.ref 1060, .int (nI j), .long b]) (rest := []) (rv := some (.int (-1))) (q' := (9, yX9_numberOf, cX9_numberOf, 5, some .int, 2, 0)) (yd (j := 71) (ins := .invokevirtual 86) (len := 3) rfl rfl) rfl rfl (show zcV (9, yX9_numberOf, cX9_numberOf, 5, some .int, 2, 0) [.long b, .int (nI j), .ref 1060] pH2 = some ((9, yX9_numberOf, cX9_numberOf, 5, some .int, 2, 0), [.ref 1060, .int (nI j), .long b], []) from zcV_ok (b := 1060) (As := [.int (nI j), .long b]) rfl pRc.2.2 rfl rfl rfl) (zGo_lv ⟨by simp, (lv_args_nd [.ref 1060, .int (nI j), .long b] 0).1, fun q hq => by simp at hq; rcases hq with h | h <;> (subst h; simp [lv_args, Value.category])⟩ (zGo_of (zXn_le fz L xs) (j := 36) rfl (by omega) e1)) ?_
    exact zGo_ret (yd (j := 71) (ins := .ireturn) (len := 1) rfl rfl) rfl rfl
  · exact hout hn
set_option maxHeartbeats 4000000 in
theorem k_item : zK_item pI pT := by
  intro a b hp hI
  have e0 : hp = pH2 := hI
  rw [e0]
  clear e0 hI
  obtain ⟨h1, fs, e1, hr, hf, hv⟩ := item_s
  refine ⟨h1, trivial, 0, h1, hr, fun fz L xs => ⟨zGo_lv (lle_arg _ _) (zGo_of (zXn_le fz L xs) (j := 140) rfl (by omega) e1), ?_⟩⟩
  refine zGo_s (pc' := 1) (st' := [.ref 1132]) (yd (j := 272) (ins := .aload_n 0) (len := 1) rfl rfl) rfl ?_
  refine zGo_gf (ci := 13) (kf := 17) (yd (j := 272) (ins := .getfield 557) (len := 3) rfl rfl) rfl hf hv ?_
  refine zGo_s (pc' := 28) (st' := []) (yd (j := 272) (ins := .ifCond .eq 24) (len := 3) rfl rfl) rfl ?_
  refine zGo_s (pc' := 29) (st' := [.int 0]) (yd (j := 272) (ins := .iconst 0) (len := 1) rfl rfl) rfl ?_
  refine zGo_s (pc' := 30) (st' := []) (lv' := [(3, .int 0), (0, .ref 1132), (1, .int a), (2, .int b)]) (yd (j := 272) (ins := .istore_n 3) (len := 1) rfl rfl) rfl ?_
  refine zGo_s (pc' := 31) (st' := [.int b]) (yd (j := 272) (ins := .iload_n 2) (len := 1) rfl rfl) rfl ?_
  refine zGo_s (pc' := 32) (st' := [.int (-1), .int b]) (yd (j := 272) (ins := .iconst (-1)) (len := 1) rfl rfl) rfl ?_
  refine zGo_icmp (t := 69) (yd (j := 272) (ins := .if_icmp .ne 37) (len := 3) rfl rfl) rfl (fun _ => ?_) (fun _ => ?_)
  · refine zGo_s (pc' := 70) (st' := [.int 0]) (yd (j := 272) (ins := .iload_n 3) (len := 1) rfl rfl) rfl ?_
    refine zGo_s (pc' := 102) (st' := []) (yd (j := 272) (ins := .ifCond .eq 32) (len := 3) rfl rfl) rfl ?_
    refine zGo_s (pc' := 103) (st' := [.int 0]) (yd (j := 272) (ins := .iconst 0) (len := 1) rfl rfl) rfl ?_
    refine zGo_s (pc' := 122) (st' := [.int 0]) (yd (j := 272) (ins := .goto 19) (len := 3) rfl rfl) rfl ?_
    exact zGo_ret (yd (j := 272) (ins := .ireturn) (len := 1) rfl rfl) rfl rfl
  · refine zGo_s (pc' := 36) (st' := [.int 0]) (yd (j := 272) (ins := .iload_n 3) (len := 1) rfl rfl) rfl ?_
    refine zGo_s (pc' := 39) (st' := []) (yd (j := 272) (ins := .ifCond .ne 7) (len := 3) rfl rfl) rfl ?_
    refine zGo_s (pc' := 40) (st' := [.int 0]) (yd (j := 272) (ins := .iconst 0) (len := 1) rfl rfl) rfl ?_
    refine zGo_s (pc' := 68) (st' := [.int 0]) (yd (j := 272) (ins := .goto 28) (len := 3) rfl rfl) rfl ?_
    exact zGo_ret (yd (j := 272) (ins := .ireturn) (len := 1) rfl rfl) rfl rfl
