/-! feed on new objects; zPure 4 -/
set_option maxHeartbeats 8000000 in
theorem k_feed : zK_feed pI pT := by
  intro w n hp hI
  have e0 : hp = pH2 := hI
  rw [e0]
  clear e0 hI
  by_cases h1 : n < 0
  · refine ⟨pH2, trivial, -2, pH2, pRc.2.1, fun fz L xs => ⟨?_, ?_⟩⟩
    · refine zGo_s (pc' := 1) (st' := [.int n]) (yd (j := 19) (ins := .iload_n 3) (len := 1) rfl rfl) rfl ?_
      refine zGo_if (t := 10) (yd (j := 19) (ins := .ifCond .lt 9) (len := 3) rfl rfl) rfl (fun _ => ?_) (fun h => absurd h1 (of_decide_eq_false h))
      refine zGo_s (pc' := 12) (st' := [.int (-2)]) (yd (j := 19) (ins := .bipush (-2)) (len := 2) rfl rfl) rfl ?_
      exact zGo_ret (yd (j := 19) (ins := .ireturn) (len := 1) rfl rfl) rfl rfl
    · refine zGo_s (pc' := 1) (st' := [.int n]) (yd (j := 162) (ins := .iload_n 3) (len := 1) rfl rfl) rfl ?_
      refine zGo_if (t := 10) (yd (j := 162) (ins := .ifCond .lt 9) (len := 3) rfl rfl) rfl (fun _ => ?_) (fun h => absurd h1 (of_decide_eq_false h))
      refine zGo_s (pc' := 12) (st' := [.int (-2)]) (yd (j := 162) (ins := .bipush (-2)) (len := 2) rfl rfl) rfl ?_
      exact zGo_ret (yd (j := 162) (ins := .ireturn) (len := 1) rfl rfl) rfl rfl
  · by_cases h2 : n ≤ 8
    · by_cases h3 : n = 0
      · subst h3
        obtain ⟨v, g1, g2, e1, hr, e2⟩ := seg_s pSegs_s.2.2.2.1
        exact ⟨g2, trivial, v, g1, hr, fun fz L xs => ⟨zGo_lv ⟨by simp, (lv_args_nd [.ref 1000, .long w, .int 0] 0).1, fun q hq => by simp at hq; rcases hq with h | h <;> (subst h; simp [lv_args, Value.category])⟩ (zGo_of (zXn_le fz L xs) (j := 19) rfl (by omega) e1), zGo_lv ⟨by simp, (lv_args_nd [.ref 1132, .long w, .int 0] 0).1, fun q hq => by simp at hq; rcases hq with h | h <;> (subst h; simp [lv_args, Value.category])⟩ (zGo_of (zXn_le fz L xs) (j := 162) rfl (by omega) e2)⟩⟩
      · obtain ⟨k, hk, hnk⟩ := nI_of2 (M := 8) (n := 8) (by decide) h1 h2
        obtain ⟨hC, hR⟩ := pFeed_s
        obtain ⟨hp1, hkeep, goC⟩ := feedC (w := w) (n := n) k 0 pH2 hC (by omega)
        have hR1 : fR hp1 0 := by
          obtain ⟨fs, f, a0, a1, a2, a3, a4⟩ := hR
          exact ⟨fs, f, by rw [hkeep 1132 (by omega)]; exact a0, a1, a2, a3, by rw [hkeep 1133 (by omega)]; exact a4⟩
        have hrc : zrcv 13 hp1 1132 = true := by
          have h9 := pRc.2.1
          unfold zrcv at h9 ⊢
          rw [hkeep 1132 (by omega)]
          exact h9
        obtain ⟨hp2, goR⟩ := feedR (w := w) (n := n) h3 k 0 hp1 hR1 (by omega)
        have hle : (0 : Int32) + n ≤ 4000 := by
          rw [hnk]
          have e9 : (0 : Int32) + nI k = nI (0 + k) := nI_add 0 k
          rw [e9]
          exact nI_le (b := 4000) (by omega) (by decide)
        have hne : zcnd .ne n 0 = true := by show (!decide (n = 0)) = true; rw [decide_eq_false h3]; rfl
        refine ⟨hp2, trivial, nI (0 + k), hp1, hrc, fun fz L xs => ⟨?_, ?_⟩⟩
        · refine zGo_s (pc' := 1) (st' := [.int n]) (yd (j := 19) (ins := .iload_n 3) (len := 1) rfl rfl) rfl ?_
          refine zGo_if (t := 10) (yd (j := 19) (ins := .ifCond .lt 9) (len := 3) rfl rfl) rfl (fun h => absurd (of_decide_eq_true h) h1) (fun _ => ?_)
          refine zGo_s (pc' := 5) (st' := [.int n]) (yd (j := 19) (ins := .iload_n 3) (len := 1) rfl rfl) rfl ?_
          refine zGo_s (pc' := 7) (st' := [.int 8, .int n]) (yd (j := 19) (ins := .bipush 8) (len := 2) rfl rfl) rfl ?_
          refine zGo_icmp (t := 13) (yd (j := 19) (ins := .if_icmp .le 6) (len := 3) rfl rfl) rfl (fun _ => ?_) (fun h => absurd h2 (of_decide_eq_false h))
          refine zGo_s (pc' := 14) (st' := [.int n]) (yd (j := 19) (ins := .iload_n 3) (len := 1) rfl rfl) rfl ?_
          refine zGo_if (t := 27) (yd (j := 19) (ins := .ifCond .ne 13) (len := 3) rfl rfl) rfl (fun _ => ?_) (fun h => by rw [hne] at h; cases h)
          obtain ⟨fs, fs5, f, a0, v0, a1, v1, v2, hl, a2⟩ := hC
          refine zGo_s (pc' := 28) (st' := [.ref 1000]) (yd (j := 19) (ins := .aload_n 0) (len := 1) rfl rfl) rfl ?_
          refine zGo_gf (ci := 11) (kf := 0) (yd (j := 19) (ins := .getfield 10) (len := 3) rfl rfl) rfl a0 v0 ?_
          refine zGo_gf (ci := 5) (kf := 2) (yd (j := 19) (ins := .getfield 53) (len := 3) rfl rfl) rfl a1 v2 ?_
          refine zGo_s (pc' := 35) (st' := [.int n, .int (nI 0)]) (yd (j := 19) (ins := .iload_n 3) (len := 1) rfl rfl) rfl ?_
          refine zGo_s (pc' := 36) (st' := [.int (nI 0 + n)]) (yd (j := 19) (ins := .iadd) (len := 1) rfl rfl) rfl ?_
          refine zGo_s (pc' := 39) (st' := [.int 4000, .int (nI 0 + n)]) (yd (j := 19) (ins := .sipush 4000) (len := 3) rfl rfl) rfl ?_
          refine zGo_icmp (t := 45) (yd (j := 19) (ins := .if_icmp .le 6) (len := 3) rfl rfl) rfl (fun _ => ?_) (fun h => absurd hle (of_decide_eq_false h))
          refine zGo_s (pc' := 46) (st' := [.int n]) (yd (j := 19) (ins := .iload_n 3) (len := 1) rfl rfl) rfl ?_
          refine zGo_s (pc' := 47) (st' := [.int 1, .int n]) (yd (j := 19) (ins := .iconst 1) (len := 1) rfl rfl) rfl ?_
          refine zGo_s (pc' := 48) (st' := [.int (n - 1)]) (yd (j := 19) (ins := .isub) (len := 1) rfl rfl) rfl ?_
          refine zGo_s (pc' := 50) (st' := []) (lv' := [(4, .int (n - 1)), (0, .ref 1000), (1, .long w), (3, .int n)]) (yd (j := 19) (ins := .istore 4) (len := 2) rfl rfl) rfl ?_
          rw [show n - 1 = nI k - 1 by rw [hnk]]
          exact zGo_lv ⟨by simp, by simp, fun q hq => by simp at hq ⊢; rcases hq with h | h | h | h <;> simp [h]⟩ (goC fz L xs)
        · refine zGo_s (pc' := 1) (st' := [.int n]) (yd (j := 162) (ins := .iload_n 3) (len := 1) rfl rfl) rfl ?_
          refine zGo_if (t := 10) (yd (j := 162) (ins := .ifCond .lt 9) (len := 3) rfl rfl) rfl (fun h => absurd (of_decide_eq_true h) h1) (fun _ => ?_)
          refine zGo_s (pc' := 5) (st' := [.int n]) (yd (j := 162) (ins := .iload_n 3) (len := 1) rfl rfl) rfl ?_
          refine zGo_s (pc' := 7) (st' := [.int 8, .int n]) (yd (j := 162) (ins := .bipush 8) (len := 2) rfl rfl) rfl ?_
          refine zGo_icmp (t := 13) (yd (j := 162) (ins := .if_icmp .le 6) (len := 3) rfl rfl) rfl (fun _ => ?_) (fun h => absurd h2 (of_decide_eq_false h))
          obtain ⟨fs, f, a0, v0, v1, hl, a1⟩ := hR1
          refine zGo_s (pc' := 14) (st' := [.ref 1132]) (yd (j := 162) (ins := .aload_n 0) (len := 1) rfl rfl) rfl ?_
          refine zGo_gf (ci := 13) (kf := 1) (yd (j := 162) (ins := .getfield 164) (len := 3) rfl rfl) rfl a0 v1 ?_
          refine zGo_s (pc' := 18) (st' := [.int n, .int (nI 0)]) (yd (j := 162) (ins := .iload_n 3) (len := 1) rfl rfl) rfl ?_
          refine zGo_s (pc' := 19) (st' := [.int (nI 0 + n)]) (yd (j := 162) (ins := .iadd) (len := 1) rfl rfl) rfl ?_
          refine zGo_s (pc' := 22) (st' := [.int 4000, .int (nI 0 + n)]) (yd (j := 162) (ins := .sipush 4000) (len := 3) rfl rfl) rfl ?_
          refine zGo_icmp (t := 28) (yd (j := 162) (ins := .if_icmp .le 6) (len := 3) rfl rfl) rfl (fun _ => ?_) (fun h => absurd hle (of_decide_eq_false h))
          refine zGo_s (pc' := 29) (st' := [.int n]) (yd (j := 162) (ins := .iload_n 3) (len := 1) rfl rfl) rfl ?_
          refine zGo_s (pc' := 30) (st' := [.int 1, .int n]) (yd (j := 162) (ins := .iconst 1) (len := 1) rfl rfl) rfl ?_
          refine zGo_s (pc' := 31) (st' := [.int (n - 1)]) (yd (j := 162) (ins := .isub) (len := 1) rfl rfl) rfl ?_
          refine zGo_s (pc' := 33) (st' := []) (lv' := [(4, .int (n - 1)), (0, .ref 1132), (1, .long w), (3, .int n)]) (yd (j := 162) (ins := .istore 4) (len := 2) rfl rfl) rfl ?_
          rw [show n - 1 = nI k - 1 by rw [hnk]]
          exact zGo_lv ⟨by simp, by simp, fun q hq => by simp at hq ⊢; rcases hq with h | h | h | h <;> simp [h]⟩ (goR fz L xs)
    · refine ⟨pH2, trivial, -2, pH2, pRc.2.1, fun fz L xs => ⟨?_, ?_⟩⟩
      · refine zGo_s (pc' := 1) (st' := [.int n]) (yd (j := 19) (ins := .iload_n 3) (len := 1) rfl rfl) rfl ?_
        refine zGo_if (t := 10) (yd (j := 19) (ins := .ifCond .lt 9) (len := 3) rfl rfl) rfl (fun h => absurd (of_decide_eq_true h) h1) (fun _ => ?_)
        refine zGo_s (pc' := 5) (st' := [.int n]) (yd (j := 19) (ins := .iload_n 3) (len := 1) rfl rfl) rfl ?_
        refine zGo_s (pc' := 7) (st' := [.int 8, .int n]) (yd (j := 19) (ins := .bipush 8) (len := 2) rfl rfl) rfl ?_
        refine zGo_icmp (t := 13) (yd (j := 19) (ins := .if_icmp .le 6) (len := 3) rfl rfl) rfl (fun h => absurd (of_decide_eq_true h) h2) (fun _ => ?_)
        refine zGo_s (pc' := 12) (st' := [.int (-2)]) (yd (j := 19) (ins := .bipush (-2)) (len := 2) rfl rfl) rfl ?_
        exact zGo_ret (yd (j := 19) (ins := .ireturn) (len := 1) rfl rfl) rfl rfl
      · refine zGo_s (pc' := 1) (st' := [.int n]) (yd (j := 162) (ins := .iload_n 3) (len := 1) rfl rfl) rfl ?_
        refine zGo_if (t := 10) (yd (j := 162) (ins := .ifCond .lt 9) (len := 3) rfl rfl) rfl (fun h => absurd (of_decide_eq_true h) h1) (fun _ => ?_)
        refine zGo_s (pc' := 5) (st' := [.int n]) (yd (j := 162) (ins := .iload_n 3) (len := 1) rfl rfl) rfl ?_
        refine zGo_s (pc' := 7) (st' := [.int 8, .int n]) (yd (j := 162) (ins := .bipush 8) (len := 2) rfl rfl) rfl ?_
        refine zGo_icmp (t := 13) (yd (j := 162) (ins := .if_icmp .le 6) (len := 3) rfl rfl) rfl (fun h => absurd (of_decide_eq_true h) h2) (fun _ => ?_)
        refine zGo_s (pc' := 12) (st' := [.int (-2)]) (yd (j := 162) (ins := .bipush (-2)) (len := 2) rfl rfl) rfl ?_
        exact zGo_ret (yd (j := 162) (ins := .ireturn) (len := 1) rfl rfl) rfl rfl
/-- one call on new objects -/
theorem pAll : zAll pI pT := ⟨fun hp h => by rw [show hp = pH2 from h]; exact pRc.1, fun _ _ => trivial, k_feed, k_module, k_place, k_declared, k_find, k_processors, k_begin, k_run, k_trigger, k_send, k_task, k_value, k_item, k_one, k_sema, k_bolt, k_irpt, k_sent, k_waits, k_schedule, k_ring, k_logged, k_induced, k_count⟩
theorem zPure4 : zPure 4 := pure4_of (I := pI) rfl pAll
