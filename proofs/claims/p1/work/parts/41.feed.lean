/-! the first calls: feed -/
theorem hget_set_eq {hp : List PE} {a : Nat} {x : PE} (y : PE) (h : hget hp a = some x) : hget (hp.set (a - zE) y) a = some y := by
  unfold hget at h ⊢
  split at h
  · cases h
  · next ha =>
    rw [if_neg ha, List.getElem?_set_self (List.getElem?_eq_some_iff.mp h).1]
theorem hget_set_ne {hp : List PE} {a b : Nat} (y : PE) (ha : zE ≤ a) (h : a ≠ b) : hget (hp.set (a - zE) y) b = hget hp b := by
  unfold hget
  split
  · rfl
  · next hb => rw [List.getElem?_set_ne (by omega)]
def fC (hp : List PE) (m : Nat) : Prop := ∃ (fs fs5 : List Value) (f : Nat → Int32), hget hp 1000 = some (.inr (11, fs)) ∧ fs[0]? = some (.ref 1001) ∧ hget hp 1001 = some (.inr (5, fs5)) ∧ fs5[0]? = some (.ref 1002) ∧ fs5[2]? = some (.int (nI m)) ∧ fs5.length = 8 ∧ hget hp 1002 = some (.inl (1, (4000, .inl f)))
def fR (hp : List PE) (m : Nat) : Prop := ∃ (fs : List Value) (f : Nat → Int32), hget hp 1132 = some (.inr (13, fs)) ∧ fs[0]? = some (.ref 1133) ∧ fs[1]? = some (.int (nI m)) ∧ fs.length = 74 ∧ hget hp 1133 = some (.inl (0, (4000, .inl f)))
def pFeed : Bool := (match hget pH2 1000, hget pH2 1001, hget pH2 1002 with
    | some (.inr (11, fs)), some (.inr (5, fs5)), some (.inl (1, (4000, .inl _))) => decide (fs[0]? = some (.ref 1001)) && decide (fs5[0]? = some (.ref 1002)) && decide (fs5[2]? = some (.int 0)) && decide (fs5.length = 8)
    | _, _, _ => false) && (match hget pH2 1132, hget pH2 1133 with
    | some (.inr (13, fs)), some (.inl (0, (4000, .inl _))) => decide (fs[0]? = some (.ref 1133)) && decide (fs[1]? = some (.int 0)) && decide (fs.length = 74)
    | _, _ => false)
set_option maxRecDepth 1000000 in
set_option maxHeartbeats 0 in
theorem pFeed_ok : pFeed = true := by decide +kernel
theorem pFeed_s : fC pH2 0 ∧ fR pH2 0 := by
  have h := pFeed_ok
  unfold pFeed at h
  rw [Bool.and_eq_true] at h
  obtain ⟨ha, hb⟩ := h
  constructor
  · split at ha
    · next fs fs5 f e1 e2 e3 =>
      simp only [Bool.and_eq_true, decide_eq_true_eq] at ha
      exact ⟨fs, fs5, f, e1, ha.1.1.1, e2, ha.1.1.2, ha.1.2, ha.2, e3⟩
    · cases ha
  · split at hb
    · next fs f e1 e2 =>
      simp only [Bool.and_eq_true, decide_eq_true_eq] at hb
      exact ⟨fs, f, e1, hb.1.1, hb.1.2, hb.2, e2⟩
    · cases hb
theorem nI_m1 (k : Nat) : nI k + (-1) = nI k - 1 := (Int32.sub_eq_add_neg (nI k) 1).symm
set_option maxHeartbeats 8000000 in
theorem feedC {w : Int64} {n : Int32} : ∀ (k m : Nat) (hp : List PE), fC hp m → m + k ≤ 4000 → ∃ hp2, (∀ a, 1132 ≤ a → hget hp2 a = hget hp a) ∧ ∀ (fz : Bool) (L : Nat) (xs : Nat → Int32), zGo (zX fz L xs) 2047 (11, yX11_feed, cX11_feed, 5, some .int, 2, 0) (50, [(0, .ref 1000), (1, .long w), (3, .int n), (4, .int (nI k - 1))], [], hp, 0, 0) (some (.int (nI (m + k))), hp2, 0, 0) := by
  intro k
  induction k with
  | zero =>
    intro m hp hf hm
    obtain ⟨fs, fs5, f, h0, v0, h1, v1, v2, hl, h2⟩ := hf
    refine ⟨hp, fun a _ => rfl, fun fz L xs => ?_⟩
    refine zGo_s (pc' := 52) (st' := [.int (nI 0 - 1)]) (yd (j := 19) (ins := .iload 4) (len := 2) rfl rfl) rfl ?_
    refine zGo_s (pc' := 92) (st' := []) (yd (j := 19) (ins := .ifCond .lt 40) (len := 3) rfl rfl) rfl ?_
    refine zGo_s (pc' := 93) (st' := [.ref 1000]) (yd (j := 19) (ins := .aload_n 0) (len := 1) rfl rfl) rfl ?_
    refine zGo_gf (ci := 11) (kf := 0) (yd (j := 19) (ins := .getfield 10) (len := 3) rfl rfl) rfl h0 v0 ?_
    refine zGo_gf (ci := 5) (kf := 2) (yd (j := 19) (ins := .getfield 53) (len := 3) rfl rfl) rfl h1 v2 ?_
    exact zGo_ret (yd (j := 19) (ins := .ireturn) (len := 1) rfl rfl) rfl rfl
  | succ k ih =>
    intro m hp hf hm
    obtain ⟨fs, fs5, f, h0, v0, h1, v1, v2, hl, h2⟩ := hf
    have hin : zin? (nI m) 4000 = true := zin?_nI (by omega) (by decide)
    have g2 : hget (hp.set (1001 - zE) (.inr (5, fs5.set 2 (.int (nI m + 1))))) 1002 = some (.inl (1, (4000, .inl f))) := by rw [hget_set_ne _ (by decide) (by decide)]; exact h2
    obtain ⟨B, hB⟩ : ∃ B : Int32, B = ((w.toUInt64 >>> ((8 * nI k : Int32).toInt64.toUInt64 &&& Int64.toUInt64 63)).toInt64.toInt32).toInt8.toInt32 := ⟨_, rfl⟩
    have hf2 : fC ((hp.set (1001 - zE) (.inr (5, fs5.set 2 (.int (nI m + 1))))).set (1002 - zE) (.inl (1, (4000, .inl (upd f (nI m).toNatClampNeg (vp_nar .byte B)))))) (m + 1) := by
      refine ⟨fs, fs5.set 2 (.int (nI m + 1)), _, ?_, v0, ?_, ?_, ?_, ?_, hget_set_eq _ g2⟩
      · rw [hget_set_ne _ (by decide) (by decide), hget_set_ne _ (by decide) (by decide)]; exact h0
      · rw [hget_set_ne _ (by decide) (by decide)]; exact hget_set_eq _ h1
      · rw [List.getElem?_set_ne (by decide)]; exact v1
      · rw [List.getElem?_set_self (by omega), nI_1]
      · rw [List.length_set]; exact hl
    obtain ⟨hp2, hk, hgo⟩ := ih (m + 1) _ hf2 (by omega)
    refine ⟨hp2, fun a ha => ?_, fun fz L xs => ?_⟩
    · rw [hk a ha, hget_set_ne _ (by decide) (by omega), hget_set_ne _ (by decide) (by omega)]
    have hgo := hgo fz L xs
    rw [show m + 1 + k = m + (k + 1) by omega] at hgo
    rw [nI_pred]
    refine zGo_s (pc' := 52) (st' := [.int (nI k)]) (yd (j := 19) (ins := .iload 4) (len := 2) rfl rfl) rfl ?_
    refine zGo_if (t := 92) (yd (j := 19) (ins := .ifCond .lt 40) (len := 3) rfl rfl) rfl (fun h => absurd (of_decide_eq_true h) (nI_pos (by omega))) (fun _ => ?_)
    refine zGo_s (pc' := 56) (st' := [.ref 1000]) (yd (j := 19) (ins := .aload_n 0) (len := 1) rfl rfl) rfl ?_
    refine zGo_gf (ci := 11) (kf := 0) (yd (j := 19) (ins := .getfield 10) (len := 3) rfl rfl) rfl h0 v0 ?_
    refine zGo_gf (ci := 5) (kf := 0) (yd (j := 19) (ins := .getfield 56) (len := 3) rfl rfl) rfl h1 v1 ?_
    refine zGo_s (pc' := 63) (st' := [.ref 1000, .ref 1002]) (yd (j := 19) (ins := .aload_n 0) (len := 1) rfl rfl) rfl ?_
    refine zGo_gf (ci := 11) (kf := 0) (yd (j := 19) (ins := .getfield 10) (len := 3) rfl rfl) rfl h0 v0 ?_
    refine zGo_s (pc' := 67) (st' := [.ref 1001, .ref 1001, .ref 1002]) (yd (j := 19) (ins := .dup) (len := 1) rfl rfl) rfl ?_
    refine zGo_gf (ci := 5) (kf := 2) (yd (j := 19) (ins := .getfield 53) (len := 3) rfl rfl) rfl h1 v2 ?_
    refine zGo_s (pc' := 71) (st' := [.int (nI m), .ref 1001, .int (nI m), .ref 1002]) (yd (j := 19) (ins := .dup_x1) (len := 1) rfl rfl) rfl ?_
    refine zGo_s (pc' := 72) (st' := [.int 1, .int (nI m), .ref 1001, .int (nI m), .ref 1002]) (yd (j := 19) (ins := .iconst 1) (len := 1) rfl rfl) rfl ?_
    refine zGo_s (pc' := 73) (st' := [.int (nI m + 1), .ref 1001, .int (nI m), .ref 1002]) (yd (j := 19) (ins := .iadd) (len := 1) rfl rfl) rfl ?_
    refine zGo_pf (ci := 5) (kf := 2) (yd (j := 19) (ins := .putfield 53) (len := 3) rfl rfl) rfl h1 (by omega) rfl rfl ?_
    refine zGo_s (pc' := 77) (st' := [.long w, .int (nI m), .ref 1002]) (yd (j := 19) (ins := .lload_n 1) (len := 1) rfl rfl) rfl ?_
    refine zGo_s (pc' := 79) (st' := [.int 8, .long w, .int (nI m), .ref 1002]) (yd (j := 19) (ins := .bipush 8) (len := 2) rfl rfl) rfl ?_
    refine zGo_s (pc' := 81) (st' := [.int (nI k), .int 8, .long w, .int (nI m), .ref 1002]) (yd (j := 19) (ins := .iload 4) (len := 2) rfl rfl) rfl ?_
    refine zGo_s (pc' := 82) (st' := [.int (8 * nI k), .long w, .int (nI m), .ref 1002]) (yd (j := 19) (ins := .imul) (len := 1) rfl rfl) rfl ?_
    refine zGo_s (pc' := 83) (st' := [.long (w.toUInt64 >>> ((8 * nI k : Int32).toInt64.toUInt64 &&& Int64.toUInt64 63)).toInt64, .int (nI m), .ref 1002]) (yd (j := 19) (ins := .lushr) (len := 1) rfl rfl) rfl ?_
    refine zGo_s (pc' := 84) (st' := [.int ((w.toUInt64 >>> ((8 * nI k : Int32).toInt64.toUInt64 &&& Int64.toUInt64 63)).toInt64.toInt32), .int (nI m), .ref 1002]) (yd (j := 19) (ins := .l2i) (len := 1) rfl rfl) rfl ?_
    refine zGo_s (pc' := 85) (st' := [.int (((w.toUInt64 >>> ((8 * nI k : Int32).toInt64.toUInt64 &&& Int64.toUInt64 63)).toInt64.toInt32).toInt8.toInt32), .int (nI m), .ref 1002]) (yd (j := 19) (ins := .i2b) (len := 1) rfl rfl) rfl ?_
    rw [← hB]
    refine zGo_bs (t := 1) (g := vp_nar .byte) (yd (j := 19) (ins := .bastore) (len := 1) rfl rfl) g2 rfl hin ?_
    refine zGo_s (pc' := 89) (st' := []) (lv' := [(4, .int (nI k + (-1))), (0, .ref 1000), (1, .long w), (3, .int n)]) (yd (j := 19) (ins := .iinc 4 (-1)) (len := 3) rfl rfl) rfl ?_
    refine zGo_s (pc' := 50) (st' := []) (yd (j := 19) (ins := .goto (-39)) (len := 3) rfl rfl) rfl ?_
    rw [nI_m1]
    exact zGo_lv ⟨by simp, by simp, fun q hq => by simp at hq ⊢; rcases hq with h | h | h | h <;> simp [h]⟩ hgo
set_option maxHeartbeats 8000000 in
theorem feedR {w : Int64} {n : Int32} (hn : ¬ n = 0) : ∀ (k m : Nat) (hp : List PE), fR hp m → m + k ≤ 4000 → ∃ hp2, ∀ (fz : Bool) (L : Nat) (xs : Nat → Int32), zGo (zX fz L xs) 2047 (13, yX13_feed, cX13_feed, 5, some .int, 2, 0) (33, [(0, .ref 1132), (1, .long w), (3, .int n), (4, .int (nI k - 1))], [], hp, 0, 0) (some (.int (nI (m + k))), hp2, 0, 0) := by
  intro k
  induction k with
  | zero =>
    intro m hp hf hm
    obtain ⟨fs, f, h0, v0, v1, hl, h1⟩ := hf
    refine ⟨hp.set (1132 - zE) (.inr (13, fs.set 1 (.int (nI m)))), fun fz L xs => ?_⟩
    refine zGo_s (pc' := 35) (st' := [.int (nI 0 - 1)]) (yd (j := 162) (ins := .iload 4) (len := 2) rfl rfl) rfl ?_
    refine zGo_s (pc' := 75) (st' := []) (yd (j := 162) (ins := .ifCond .lt 40) (len := 3) rfl rfl) rfl ?_
    refine zGo_s (pc' := 76) (st' := [.ref 1132]) (yd (j := 162) (ins := .aload_n 0) (len := 1) rfl rfl) rfl ?_
    refine zGo_s (pc' := 77) (st' := [.int n, .ref 1132]) (yd (j := 162) (ins := .iload_n 3) (len := 1) rfl rfl) rfl ?_
    refine zGo_if (t := 84) (yd (j := 162) (ins := .ifCond .ne 7) (len := 3) rfl rfl) rfl (fun _ => ?_) (fun h => absurd h (by show ¬ (!decide (n = 0)) = false; rw [decide_eq_false hn]; decide))
    refine zGo_s (pc' := 85) (st' := [.ref 1132, .ref 1132]) (yd (j := 162) (ins := .aload_n 0) (len := 1) rfl rfl) rfl ?_
    refine zGo_gf (ci := 13) (kf := 1) (yd (j := 162) (ins := .getfield 164) (len := 3) rfl rfl) rfl h0 v1 ?_
    refine zGo_pf (ci := 13) (kf := 1) (yd (j := 162) (ins := .putfield 164) (len := 3) rfl rfl) rfl h0 (by omega) rfl rfl ?_
    refine zGo_s (pc' := 92) (st' := [.ref 1132]) (yd (j := 162) (ins := .aload_n 0) (len := 1) rfl rfl) rfl ?_
    refine zGo_gf (ci := 13) (kf := 1) (v := .int (nI m)) (yd (j := 162) (ins := .getfield 164) (len := 3) rfl rfl) rfl (hget_set_eq _ h0) (List.getElem?_set_self (by omega)) ?_
    exact zGo_ret (yd (j := 162) (ins := .ireturn) (len := 1) rfl rfl) rfl rfl
  | succ k ih =>
    intro m hp hf hm
    obtain ⟨fs, f, h0, v0, v1, hl, h1⟩ := hf
    have hin : zin? (nI m) 4000 = true := zin?_nI (by omega) (by decide)
    obtain ⟨B, hB⟩ : ∃ B : Int32, B = ((w.toUInt64 >>> ((8 * nI k : Int32).toInt64.toUInt64 &&& Int64.toUInt64 63)).toInt64.toInt32) &&& 255 := ⟨_, rfl⟩
    have g0 : hget (hp.set (1133 - zE) (.inl (0, (4000, .inl (upd f (nI m).toNatClampNeg B))))) 1132 = some (.inr (13, fs)) := by rw [hget_set_ne _ (by decide) (by decide)]; exact h0
    have hf2 : fR ((hp.set (1133 - zE) (.inl (0, (4000, .inl (upd f (nI m).toNatClampNeg B))))).set (1132 - zE) (.inr (13, fs.set 1 (.int (nI m + 1))))) (m + 1) := by
      refine ⟨fs.set 1 (.int (nI m + 1)), upd f (nI m).toNatClampNeg B, hget_set_eq _ g0, ?_, ?_, ?_, ?_⟩
      · rw [List.getElem?_set_ne (by decide)]; exact v0
      · rw [List.getElem?_set_self (by omega), nI_1]
      · rw [List.length_set]; exact hl
      · rw [hget_set_ne _ (by decide) (by decide)]; exact hget_set_eq _ h1
    obtain ⟨hp2, hgo⟩ := ih (m + 1) _ hf2 (by omega)
    refine ⟨hp2, fun fz L xs => ?_⟩
    have hgo := hgo fz L xs
    rw [show m + 1 + k = m + (k + 1) by omega] at hgo
    rw [nI_pred]
    refine zGo_s (pc' := 35) (st' := [.int (nI k)]) (yd (j := 162) (ins := .iload 4) (len := 2) rfl rfl) rfl ?_
    refine zGo_if (t := 75) (yd (j := 162) (ins := .ifCond .lt 40) (len := 3) rfl rfl) rfl (fun h => absurd (of_decide_eq_true h) (nI_pos (by omega))) (fun _ => ?_)
    refine zGo_s (pc' := 39) (st' := [.ref 1132]) (yd (j := 162) (ins := .aload_n 0) (len := 1) rfl rfl) rfl ?_
    refine zGo_gf (ci := 13) (kf := 0) (yd (j := 162) (ins := .getfield 7) (len := 3) rfl rfl) rfl h0 v0 ?_
    refine zGo_s (pc' := 43) (st' := [.ref 1132, .ref 1133]) (yd (j := 162) (ins := .aload_n 0) (len := 1) rfl rfl) rfl ?_
    refine zGo_gf (ci := 13) (kf := 1) (yd (j := 162) (ins := .getfield 164) (len := 3) rfl rfl) rfl h0 v1 ?_
    refine zGo_s (pc' := 47) (st' := [.long w, .int (nI m), .ref 1133]) (yd (j := 162) (ins := .lload_n 1) (len := 1) rfl rfl) rfl ?_
    refine zGo_s (pc' := 49) (st' := [.int 8, .long w, .int (nI m), .ref 1133]) (yd (j := 162) (ins := .bipush 8) (len := 2) rfl rfl) rfl ?_
    refine zGo_s (pc' := 51) (st' := [.int (nI k), .int 8, .long w, .int (nI m), .ref 1133]) (yd (j := 162) (ins := .iload 4) (len := 2) rfl rfl) rfl ?_
    refine zGo_s (pc' := 52) (st' := [.int (8 * nI k), .long w, .int (nI m), .ref 1133]) (yd (j := 162) (ins := .imul) (len := 1) rfl rfl) rfl ?_
    refine zGo_s (pc' := 53) (st' := [.long (w.toUInt64 >>> ((8 * nI k : Int32).toInt64.toUInt64 &&& Int64.toUInt64 63)).toInt64, .int (nI m), .ref 1133]) (yd (j := 162) (ins := .lushr) (len := 1) rfl rfl) rfl ?_
    refine zGo_s (pc' := 54) (st' := [.int ((w.toUInt64 >>> ((8 * nI k : Int32).toInt64.toUInt64 &&& Int64.toUInt64 63)).toInt64.toInt32), .int (nI m), .ref 1133]) (yd (j := 162) (ins := .l2i) (len := 1) rfl rfl) rfl ?_
    refine zGo_s (pc' := 57) (st' := [.int 255, .int ((w.toUInt64 >>> ((8 * nI k : Int32).toInt64.toUInt64 &&& Int64.toUInt64 63)).toInt64.toInt32), .int (nI m), .ref 1133]) (yd (j := 162) (ins := .sipush 255) (len := 3) rfl rfl) rfl ?_
    refine zGo_s (pc' := 58) (st' := [.int (((w.toUInt64 >>> ((8 * nI k : Int32).toInt64.toUInt64 &&& Int64.toUInt64 63)).toInt64.toInt32) &&& 255), .int (nI m), .ref 1133]) (yd (j := 162) (ins := .iand) (len := 1) rfl rfl) rfl ?_
    rw [← hB]
    refine zGo_is (yd (j := 162) (ins := .iastore) (len := 1) rfl rfl) h1 hin ?_
    refine zGo_s (pc' := 60) (st' := [.ref 1132]) (yd (j := 162) (ins := .aload_n 0) (len := 1) rfl rfl) rfl ?_
    refine zGo_s (pc' := 61) (st' := [.ref 1132, .ref 1132]) (yd (j := 162) (ins := .dup) (len := 1) rfl rfl) rfl ?_
    refine zGo_gf (ci := 13) (kf := 1) (yd (j := 162) (ins := .getfield 164) (len := 3) rfl rfl) rfl g0 v1 ?_
    refine zGo_s (pc' := 65) (st' := [.int 1, .int (nI m), .ref 1132]) (yd (j := 162) (ins := .iconst 1) (len := 1) rfl rfl) rfl ?_
    refine zGo_s (pc' := 66) (st' := [.int (nI m + 1), .ref 1132]) (yd (j := 162) (ins := .iadd) (len := 1) rfl rfl) rfl ?_
    refine zGo_pf (ci := 13) (kf := 1) (yd (j := 162) (ins := .putfield 164) (len := 3) rfl rfl) rfl g0 (by omega) rfl rfl ?_
    refine zGo_s (pc' := 72) (st' := []) (lv' := [(4, .int (nI k + (-1))), (0, .ref 1132), (1, .long w), (3, .int n)]) (yd (j := 162) (ins := .iinc 4 (-1)) (len := 3) rfl rfl) rfl ?_
    refine zGo_s (pc' := 33) (st' := []) (yd (j := 162) (ins := .goto (-39)) (len := 3) rfl rfl) rfl ?_
    rw [nI_m1]
    exact zGo_lv ⟨by simp, by simp, fun q hq => by simp at hq ⊢; rcases hq with h | h | h | h <;> simp [h]⟩ hgo
