/-! the first calls, on new objects -/
theorem lv_args_nd : ∀ (vs : List Value) (i : Nat), ((lv_args i vs).map (fun q => q.1)).Nodup ∧ ∀ q ∈ lv_args i vs, i ≤ q.1
  | [], i => ⟨List.nodup_nil, fun q h => by cases h⟩
  | v :: vs, i => by
    have hi : i < (if v.category = 2 then i + 2 else i + 1) := by split <;> omega
    obtain ⟨h1, h2⟩ := lv_args_nd vs (if v.category = 2 then i + 2 else i + 1)
    refine ⟨?_, fun q hq => ?_⟩
    · show (i :: (lv_args (if v.category = 2 then i + 2 else i + 1) vs).map (fun q => q.1)).Nodup
      rw [List.nodup_cons]
      refine ⟨fun hm => ?_, h1⟩
      obtain ⟨q, hq, e⟩ := List.mem_map.mp hm
      have := h2 q hq
      have e9 : q.1 = i := e
      omega
    · rcases List.mem_cons.mp (show q ∈ (i, v) :: lv_args (if v.category = 2 then i + 2 else i + 1) vs from hq) with rfl | hq
      · exact Nat.le_refl i
      · exact Nat.le_trans (Nat.le_of_lt hi) (h2 q hq)
theorem lle_arg (v : Value) (as : List Value) : lle [(0, v)] (lv_args 0 (v :: as)) := ⟨by simp, (lv_args_nd (v :: as) 0).1, fun q hq => by
  rcases List.mem_singleton.mp hq with rfl
  exact List.mem_cons_self⟩
theorem pair_s {jc jr : Nat} (h : pPair jc jr = true) : ∃ v h1 h2, yrun zXn 6000 40 jc (0, [(0, .ref 1000)], [], pH2, 0, 0) = some (some (.int v), h1, 0, 0) ∧ zrcv 13 h1 1132 = true ∧ yrun zXn 6000 40 jr (0, [(0, .ref 1132)], [], h1, 0, 0) = some (some (.int v), h2, 0, 0) := by
  unfold pPair at h
  split at h
  · next x h1 e1 =>
    rw [Bool.and_eq_true] at h
    obtain ⟨hr, h⟩ := h
    split at h
    · next y h2 e2 =>
      have e9 := of_decide_eq_true h
      subst e9
      exact ⟨_, _, _, e1, hr, e2⟩
    · cases h
  · cases h
theorem seg_s {jc pcc : Nat} {lvc : List (Nat × Value)} {jr pcr : Nat} {lvr : List (Nat × Value)} (h : pSeg jc pcc lvc jr pcr lvr = true) : ∃ v h1 h2, yrun zXn 2000 40 jc (pcc, (0, .ref 1000) :: lvc, [], pH2, 0, 0) = some (some (.int v), h1, 0, 0) ∧ zrcv 13 h1 1132 = true ∧ yrun zXn 2000 40 jr (pcr, (0, .ref 1132) :: lvr, [], h1, 0, 0) = some (some (.int v), h2, 0, 0) := by
  unfold pSeg at h
  split at h
  · next x h1 e1 =>
    rw [Bool.and_eq_true] at h
    obtain ⟨hr, h⟩ := h
    split at h
    · next y h2 e2 =>
      have e9 := of_decide_eq_true h
      subst e9
      exact ⟨_, _, _, e1, hr, e2⟩
    · cases h
  · cases h
abbrev pI : List PE → Prop := fun hp => hp = pH2
abbrev pT : List PE → Prop := fun _ => True
theorem k_pair {jc jr : Nat} {qx qm : zMI} (hx : ymi jc = some qx) (hm : ymi jr = some qm) (h : pPair jc jr = true) (as : List Value) : zKeeps pI pT qx qm as := by
  intro hp hI
  have e0 : hp = pH2 := hI
  rw [e0]
  obtain ⟨v, h1, h2, e1, hr, e2⟩ := pair_s h
  exact ⟨h2, trivial, v, h1, hr, fun fz L xs => ⟨zGo_lv (lle_arg _ as) (zGo_of (zXn_le fz L xs) hx (by omega) e1), zGo_lv (lle_arg _ as) (zGo_of (zXn_le fz L xs) hm (by omega) e2)⟩⟩
theorem pP {jc jr : Nat} (h : (jc, jr) ∈ pPairs) : pPair jc jr = true := List.all_eq_true.mp pPairs_ok (jc, jr) h
theorem pSegs_s : pSeg 82 15 [] 221 15 [] = true ∧ (∀ k ∈ ([1, 2, 3] : List Int32), pSeg 72 0 [(1, .int k)] 207 0 [(1, .int k)] = true) ∧ (∀ k ∈ ([0, 1, 2, 3, 4, 5, 6, 7, 8, 9, 10] : List Int32), pSeg 70 0 [(1, .int k)] 205 0 [(1, .int k)] = true) ∧ pSeg 19 0 [(3, .int 0)] 162 0 [(3, .int 0)] = true ∧ (∀ k ∈ ([0, 1, 2, 3, 4, 5, 6, 7, 8] : List Int32), pFind k = true) ∧ pItem = true ∧ pFindO = true := by
  have h := pSegs_ok
  simp only [Bool.and_eq_true, List.all_eq_true] at h
  exact h
theorem pRc : zrcv 11 pH2 1000 = true ∧ zrcv 13 pH2 1132 = true ∧ zrcv 9 pH2 1060 = true := by
  have h := pSegs_s.2.2.2.2.2.2
  unfold pFindO at h
  simp only [Bool.and_eq_true] at h
  exact ⟨h.1.1.2, h.1.2, h.2⟩
theorem k_place : zK_place pI pT := k_pair (jc := 69) (jr := 204) rfl rfl (pP (by decide)) _
theorem k_begin : zK_begin pI pT := k_pair (jc := 73) (jr := 208) rfl rfl (pP (by decide)) _
theorem k_trigger : zK_trigger pI pT := fun _ => k_pair (jc := 133) (jr := 267) rfl rfl (pP (by decide)) _
theorem k_send : zK_send pI pT := fun _ _ => k_pair (jc := 135) (jr := 268) rfl rfl (pP (by decide)) _
theorem k_task : zK_task pI pT := fun _ _ => k_pair (jc := 137) (jr := 269) rfl rfl (pP (by decide)) _
theorem k_value : zK_value pI pT := fun _ => k_pair (jc := 139) (jr := 271) rfl rfl (pP (by decide)) _
theorem k_one : zK_one pI pT := fun _ _ => k_pair (jc := 141) (jr := 273) rfl rfl (pP (by decide)) _
theorem k_sema : zK_sema pI pT := fun _ => k_pair (jc := 142) (jr := 274) rfl rfl (pP (by decide)) _
theorem k_bolt : zK_bolt pI pT := fun _ _ => k_pair (jc := 143) (jr := 275) rfl rfl (pP (by decide)) _
theorem k_irpt : zK_irpt pI pT := fun _ _ => k_pair (jc := 144) (jr := 276) rfl rfl (pP (by decide)) _
theorem k_sent : zK_sent pI pT := fun _ _ => k_pair (jc := 145) (jr := 277) rfl rfl (pP (by decide)) _
theorem k_waits : zK_waits pI pT := fun _ _ _ => k_pair (jc := 146) (jr := 278) rfl rfl (pP (by decide)) _
theorem k_schedule : zK_schedule pI pT := fun _ _ _ => k_pair (jc := 149) (jr := 280) rfl rfl (pP (by decide)) _
theorem k_ring : zK_ring pI pT := fun _ => k_pair (jc := 151) (jr := 281) rfl rfl (pP (by decide)) _
theorem k_logged : zK_logged pI pT := fun _ => k_pair (jc := 154) (jr := 283) rfl rfl (pP (by decide)) _
theorem k_induced : zK_induced pI pT := fun _ _ => k_pair (jc := 156) (jr := 284) rfl rfl (pP (by decide)) _
theorem k_count : zK_count pI pT := fun _ => k_pair (jc := 158) (jr := 285) rfl rfl (pP (by decide)) _
theorem k_module : zK_module pI pT := k_pair (jc := 20) (jr := 163) rfl rfl pModule_ok _
set_option maxHeartbeats 4000000 in
theorem k_run : zK_run pI pT := by
  intro n hp hI
  have e0 : hp = pH2 := hI
  rw [e0]
  clear e0 hI
  by_cases h1 : n < 1
  · refine ⟨pH2, trivial, -2, pH2, pRc.2.1, fun fz L xs => ⟨?_, ?_⟩⟩
    · refine zGo_s (pc' := 1) (st' := [.int n]) (yd (j := 82) (ins := .iload_n 1) (len := 1) rfl rfl) rfl ?_
      refine zGo_s (pc' := 2) (st' := [.int (1), .int n]) (yd (j := 82) (ins := .iconst 1) (len := 1) rfl rfl) rfl ?_
      refine zGo_icmp (t := 12) (yd (j := 82) (ins := .if_icmp .lt 10) (len := 3) rfl rfl) rfl (fun _ => ?_) (fun h => absurd h1 (of_decide_eq_false h))
      refine zGo_s (pc' := 14) (st' := [.int (-2)]) (yd (j := 82) (ins := .bipush (-2)) (len := 2) rfl rfl) rfl ?_
      exact zGo_ret (yd (j := 82) (ins := .ireturn) (len := 1) rfl rfl) rfl rfl
    · refine zGo_s (pc' := 1) (st' := [.int n]) (yd (j := 221) (ins := .iload_n 1) (len := 1) rfl rfl) rfl ?_
      refine zGo_s (pc' := 2) (st' := [.int (1), .int n]) (yd (j := 221) (ins := .iconst 1) (len := 1) rfl rfl) rfl ?_
      refine zGo_icmp (t := 12) (yd (j := 221) (ins := .if_icmp .lt 10) (len := 3) rfl rfl) rfl (fun _ => ?_) (fun h => absurd h1 (of_decide_eq_false h))
      refine zGo_s (pc' := 14) (st' := [.int (-2)]) (yd (j := 221) (ins := .bipush (-2)) (len := 2) rfl rfl) rfl ?_
      exact zGo_ret (yd (j := 221) (ins := .ireturn) (len := 1) rfl rfl) rfl rfl
  · by_cases h2 : n ≤ 500
    · obtain ⟨v, g1, g2, e1, hr, e2⟩ := seg_s pSegs_s.1
      refine ⟨g2, trivial, v, g1, hr, fun fz L xs => ⟨?_, ?_⟩⟩
      · refine zGo_s (pc' := 1) (st' := [.int n]) (yd (j := 82) (ins := .iload_n 1) (len := 1) rfl rfl) rfl ?_
        refine zGo_s (pc' := 2) (st' := [.int (1), .int n]) (yd (j := 82) (ins := .iconst 1) (len := 1) rfl rfl) rfl ?_
        refine zGo_icmp (t := 12) (yd (j := 82) (ins := .if_icmp .lt 10) (len := 3) rfl rfl) rfl (fun h => absurd (of_decide_eq_true h) h1) (fun _ => ?_)
        refine zGo_s (pc' := 6) (st' := [.int n]) (yd (j := 82) (ins := .iload_n 1) (len := 1) rfl rfl) rfl ?_
        refine zGo_s (pc' := 9) (st' := [.int (500), .int n]) (yd (j := 82) (ins := .sipush 500) (len := 3) rfl rfl) rfl ?_
        refine zGo_icmp (t := 15) (yd (j := 82) (ins := .if_icmp .le 6) (len := 3) rfl rfl) rfl (fun _ => ?_) (fun h => absurd h2 (of_decide_eq_false h))
        exact zGo_lv (lle_arg _ _) (zGo_of (zXn_le fz L xs) rfl (by omega) e1)
      · refine zGo_s (pc' := 1) (st' := [.int n]) (yd (j := 221) (ins := .iload_n 1) (len := 1) rfl rfl) rfl ?_
        refine zGo_s (pc' := 2) (st' := [.int (1), .int n]) (yd (j := 221) (ins := .iconst 1) (len := 1) rfl rfl) rfl ?_
        refine zGo_icmp (t := 12) (yd (j := 221) (ins := .if_icmp .lt 10) (len := 3) rfl rfl) rfl (fun h => absurd (of_decide_eq_true h) h1) (fun _ => ?_)
        refine zGo_s (pc' := 6) (st' := [.int n]) (yd (j := 221) (ins := .iload_n 1) (len := 1) rfl rfl) rfl ?_
        refine zGo_s (pc' := 9) (st' := [.int (500), .int n]) (yd (j := 221) (ins := .sipush 500) (len := 3) rfl rfl) rfl ?_
        refine zGo_icmp (t := 15) (yd (j := 221) (ins := .if_icmp .le 6) (len := 3) rfl rfl) rfl (fun _ => ?_) (fun h => absurd h2 (of_decide_eq_false h))
        exact zGo_lv (lle_arg _ _) (zGo_of (zXn_le fz L xs) rfl (by omega) e2)
    · refine ⟨pH2, trivial, -2, pH2, pRc.2.1, fun fz L xs => ⟨?_, ?_⟩⟩
      · refine zGo_s (pc' := 1) (st' := [.int n]) (yd (j := 82) (ins := .iload_n 1) (len := 1) rfl rfl) rfl ?_
        refine zGo_s (pc' := 2) (st' := [.int (1), .int n]) (yd (j := 82) (ins := .iconst 1) (len := 1) rfl rfl) rfl ?_
        refine zGo_icmp (t := 12) (yd (j := 82) (ins := .if_icmp .lt 10) (len := 3) rfl rfl) rfl (fun h => absurd (of_decide_eq_true h) h1) (fun _ => ?_)
        refine zGo_s (pc' := 6) (st' := [.int n]) (yd (j := 82) (ins := .iload_n 1) (len := 1) rfl rfl) rfl ?_
        refine zGo_s (pc' := 9) (st' := [.int (500), .int n]) (yd (j := 82) (ins := .sipush 500) (len := 3) rfl rfl) rfl ?_
        refine zGo_icmp (t := 15) (yd (j := 82) (ins := .if_icmp .le 6) (len := 3) rfl rfl) rfl (fun h => absurd (of_decide_eq_true h) h2) (fun _ => ?_)
        refine zGo_s (pc' := 14) (st' := [.int (-2)]) (yd (j := 82) (ins := .bipush (-2)) (len := 2) rfl rfl) rfl ?_
        exact zGo_ret (yd (j := 82) (ins := .ireturn) (len := 1) rfl rfl) rfl rfl
      · refine zGo_s (pc' := 1) (st' := [.int n]) (yd (j := 221) (ins := .iload_n 1) (len := 1) rfl rfl) rfl ?_
        refine zGo_s (pc' := 2) (st' := [.int (1), .int n]) (yd (j := 221) (ins := .iconst 1) (len := 1) rfl rfl) rfl ?_
        refine zGo_icmp (t := 12) (yd (j := 221) (ins := .if_icmp .lt 10) (len := 3) rfl rfl) rfl (fun h => absurd (of_decide_eq_true h) h1) (fun _ => ?_)
        refine zGo_s (pc' := 6) (st' := [.int n]) (yd (j := 221) (ins := .iload_n 1) (len := 1) rfl rfl) rfl ?_
        refine zGo_s (pc' := 9) (st' := [.int (500), .int n]) (yd (j := 221) (ins := .sipush 500) (len := 3) rfl rfl) rfl ?_
        refine zGo_icmp (t := 15) (yd (j := 221) (ins := .if_icmp .le 6) (len := 3) rfl rfl) rfl (fun h => absurd (of_decide_eq_true h) h2) (fun _ => ?_)
        refine zGo_s (pc' := 14) (st' := [.int (-2)]) (yd (j := 221) (ins := .bipush (-2)) (len := 2) rfl rfl) rfl ?_
        exact zGo_ret (yd (j := 221) (ins := .ireturn) (len := 1) rfl rfl) rfl rfl
set_option maxHeartbeats 4000000 in
theorem k_processors : zK_processors pI pT := by
  intro n hp hI
  have e0 : hp = pH2 := hI
  rw [e0]
  clear e0 hI
  by_cases h1 : n < 1
  · refine ⟨pH2, trivial, -2, pH2, pRc.2.1, fun fz L xs => ⟨?_, ?_⟩⟩
    · refine zGo_s (pc' := 1) (st' := [.int n]) (yd (j := 72) (ins := .iload_n 1) (len := 1) rfl rfl) rfl ?_
      refine zGo_s (pc' := 2) (st' := [.int (1), .int n]) (yd (j := 72) (ins := .iconst 1) (len := 1) rfl rfl) rfl ?_
      refine zGo_icmp (t := 10) (yd (j := 72) (ins := .if_icmp .lt 8) (len := 3) rfl rfl) rfl (fun _ => ?_) (fun h => absurd h1 (of_decide_eq_false h))
      refine zGo_s (pc' := 12) (st' := [.int (-2)]) (yd (j := 72) (ins := .bipush (-2)) (len := 2) rfl rfl) rfl ?_
      exact zGo_ret (yd (j := 72) (ins := .ireturn) (len := 1) rfl rfl) rfl rfl
    · refine zGo_s (pc' := 1) (st' := [.int n]) (yd (j := 207) (ins := .iload_n 1) (len := 1) rfl rfl) rfl ?_
      refine zGo_s (pc' := 2) (st' := [.int (1), .int n]) (yd (j := 207) (ins := .iconst 1) (len := 1) rfl rfl) rfl ?_
      refine zGo_icmp (t := 10) (yd (j := 207) (ins := .if_icmp .lt 8) (len := 3) rfl rfl) rfl (fun _ => ?_) (fun h => absurd h1 (of_decide_eq_false h))
      refine zGo_s (pc' := 12) (st' := [.int (-2)]) (yd (j := 207) (ins := .bipush (-2)) (len := 2) rfl rfl) rfl ?_
      exact zGo_ret (yd (j := 207) (ins := .ireturn) (len := 1) rfl rfl) rfl rfl
  · by_cases h2 : n ≤ 3
    · have h0 : ¬ n < 0 := fun h => h1 (Int32.lt_of_lt_of_le h (by decide))
      obtain ⟨j, hj, rfl⟩ := nI_of2 (M := 3) (n := 3) (by decide) h0 h2
      have hm : nI j ∈ ([1, 2, 3] : List Int32) := by
        match j, hj, h1 with
        | 0, _, h1 => exact absurd (by decide) h1
        | 1, _, _ => decide
        | 2, _, _ => decide
        | 3, _, _ => decide
        | k + 4, hj, _ => omega
      obtain ⟨v, g1, g2, e1, hr, e2⟩ := seg_s (pSegs_s.2.1 _ hm)
      exact ⟨g2, trivial, v, g1, hr, fun fz L xs => ⟨zGo_of (zXn_le fz L xs) rfl (by omega) e1, zGo_of (zXn_le fz L xs) rfl (by omega) e2⟩⟩
    · refine ⟨pH2, trivial, -2, pH2, pRc.2.1, fun fz L xs => ⟨?_, ?_⟩⟩
      · refine zGo_s (pc' := 1) (st' := [.int n]) (yd (j := 72) (ins := .iload_n 1) (len := 1) rfl rfl) rfl ?_
        refine zGo_s (pc' := 2) (st' := [.int (1), .int n]) (yd (j := 72) (ins := .iconst 1) (len := 1) rfl rfl) rfl ?_
        refine zGo_icmp (t := 10) (yd (j := 72) (ins := .if_icmp .lt 8) (len := 3) rfl rfl) rfl (fun h => absurd (of_decide_eq_true h) h1) (fun _ => ?_)
        refine zGo_s (pc' := 6) (st' := [.int n]) (yd (j := 72) (ins := .iload_n 1) (len := 1) rfl rfl) rfl ?_
        refine zGo_s (pc' := 7) (st' := [.int (3), .int n]) (yd (j := 72) (ins := .iconst 3) (len := 1) rfl rfl) rfl ?_
        refine zGo_icmp (t := 13) (yd (j := 72) (ins := .if_icmp .le 6) (len := 3) rfl rfl) rfl (fun h => absurd (of_decide_eq_true h) h2) (fun _ => ?_)
        refine zGo_s (pc' := 12) (st' := [.int (-2)]) (yd (j := 72) (ins := .bipush (-2)) (len := 2) rfl rfl) rfl ?_
        exact zGo_ret (yd (j := 72) (ins := .ireturn) (len := 1) rfl rfl) rfl rfl
      · refine zGo_s (pc' := 1) (st' := [.int n]) (yd (j := 207) (ins := .iload_n 1) (len := 1) rfl rfl) rfl ?_
        refine zGo_s (pc' := 2) (st' := [.int (1), .int n]) (yd (j := 207) (ins := .iconst 1) (len := 1) rfl rfl) rfl ?_
        refine zGo_icmp (t := 10) (yd (j := 207) (ins := .if_icmp .lt 8) (len := 3) rfl rfl) rfl (fun h => absurd (of_decide_eq_true h) h1) (fun _ => ?_)
        refine zGo_s (pc' := 6) (st' := [.int n]) (yd (j := 207) (ins := .iload_n 1) (len := 1) rfl rfl) rfl ?_
        refine zGo_s (pc' := 7) (st' := [.int (3), .int n]) (yd (j := 207) (ins := .iconst 3) (len := 1) rfl rfl) rfl ?_
        refine zGo_icmp (t := 13) (yd (j := 207) (ins := .if_icmp .le 6) (len := 3) rfl rfl) rfl (fun h => absurd (of_decide_eq_true h) h2) (fun _ => ?_)
        refine zGo_s (pc' := 12) (st' := [.int (-2)]) (yd (j := 207) (ins := .bipush (-2)) (len := 2) rfl rfl) rfl ?_
        exact zGo_ret (yd (j := 207) (ins := .ireturn) (len := 1) rfl rfl) rfl rfl
set_option maxHeartbeats 4000000 in
theorem k_declared : zK_declared pI pT := by
  intro n hp hI
  have e0 : hp = pH2 := hI
  rw [e0]
  clear e0 hI
  by_cases h1 : n < 0
  · refine ⟨pH2, trivial, -2, pH2, pRc.2.1, fun fz L xs => ⟨?_, ?_⟩⟩
    · refine zGo_s (pc' := 1) (st' := [.int n]) (yd (j := 70) (ins := .iload_n 1) (len := 1) rfl rfl) rfl ?_
      refine zGo_if (t := 10) (yd (j := 70) (ins := .ifCond .lt 9) (len := 3) rfl rfl) rfl (fun _ => ?_) (fun h => absurd h1 (of_decide_eq_false h))
      refine zGo_s (pc' := 12) (st' := [.int (-2)]) (yd (j := 70) (ins := .bipush (-2)) (len := 2) rfl rfl) rfl ?_
      exact zGo_ret (yd (j := 70) (ins := .ireturn) (len := 1) rfl rfl) rfl rfl
    · refine zGo_s (pc' := 1) (st' := [.int n]) (yd (j := 205) (ins := .iload_n 1) (len := 1) rfl rfl) rfl ?_
      refine zGo_if (t := 10) (yd (j := 205) (ins := .ifCond .lt 9) (len := 3) rfl rfl) rfl (fun _ => ?_) (fun h => absurd h1 (of_decide_eq_false h))
      refine zGo_s (pc' := 12) (st' := [.int (-2)]) (yd (j := 205) (ins := .bipush (-2)) (len := 2) rfl rfl) rfl ?_
      exact zGo_ret (yd (j := 205) (ins := .ireturn) (len := 1) rfl rfl) rfl rfl
  · by_cases h2 : n ≤ 10
    · have h0 : ¬ n < 0 := h1
      obtain ⟨j, hj, rfl⟩ := nI_of2 (M := 10) (n := 10) (by decide) h0 h2
      have hm : nI j ∈ ([0, 1, 2, 3, 4, 5, 6, 7, 8, 9, 10] : List Int32) := by
        match j, hj with
        | 0, _ => decide
        | 1, _ => decide
        | 2, _ => decide
        | 3, _ => decide
        | 4, _ => decide
        | 5, _ => decide
        | 6, _ => decide
        | 7, _ => decide
        | 8, _ => decide
        | 9, _ => decide
        | 10, _ => decide
        | k + 11, hj => omega
      obtain ⟨v, g1, g2, e1, hr, e2⟩ := seg_s (pSegs_s.2.2.1 _ hm)
      exact ⟨g2, trivial, v, g1, hr, fun fz L xs => ⟨zGo_of (zXn_le fz L xs) rfl (by omega) e1, zGo_of (zXn_le fz L xs) rfl (by omega) e2⟩⟩
    · refine ⟨pH2, trivial, -2, pH2, pRc.2.1, fun fz L xs => ⟨?_, ?_⟩⟩
      · refine zGo_s (pc' := 1) (st' := [.int n]) (yd (j := 70) (ins := .iload_n 1) (len := 1) rfl rfl) rfl ?_
        refine zGo_if (t := 10) (yd (j := 70) (ins := .ifCond .lt 9) (len := 3) rfl rfl) rfl (fun h => absurd (of_decide_eq_true h) h1) (fun _ => ?_)
        refine zGo_s (pc' := 5) (st' := [.int n]) (yd (j := 70) (ins := .iload_n 1) (len := 1) rfl rfl) rfl ?_
        refine zGo_s (pc' := 7) (st' := [.int (10), .int n]) (yd (j := 70) (ins := .bipush 10) (len := 2) rfl rfl) rfl ?_
        refine zGo_icmp (t := 13) (yd (j := 70) (ins := .if_icmp .le 6) (len := 3) rfl rfl) rfl (fun h => absurd (of_decide_eq_true h) h2) (fun _ => ?_)
        refine zGo_s (pc' := 12) (st' := [.int (-2)]) (yd (j := 70) (ins := .bipush (-2)) (len := 2) rfl rfl) rfl ?_
        exact zGo_ret (yd (j := 70) (ins := .ireturn) (len := 1) rfl rfl) rfl rfl
      · refine zGo_s (pc' := 1) (st' := [.int n]) (yd (j := 205) (ins := .iload_n 1) (len := 1) rfl rfl) rfl ?_
        refine zGo_if (t := 10) (yd (j := 205) (ins := .ifCond .lt 9) (len := 3) rfl rfl) rfl (fun h => absurd (of_decide_eq_true h) h1) (fun _ => ?_)
        refine zGo_s (pc' := 5) (st' := [.int n]) (yd (j := 205) (ins := .iload_n 1) (len := 1) rfl rfl) rfl ?_
        refine zGo_s (pc' := 7) (st' := [.int (10), .int n]) (yd (j := 205) (ins := .bipush 10) (len := 2) rfl rfl) rfl ?_
        refine zGo_icmp (t := 13) (yd (j := 205) (ins := .if_icmp .le 6) (len := 3) rfl rfl) rfl (fun h => absurd (of_decide_eq_true h) h2) (fun _ => ?_)
        refine zGo_s (pc' := 12) (st' := [.int (-2)]) (yd (j := 205) (ins := .bipush (-2)) (len := 2) rfl rfl) rfl ?_
        exact zGo_ret (yd (j := 205) (ins := .ireturn) (len := 1) rfl rfl) rfl rfl
