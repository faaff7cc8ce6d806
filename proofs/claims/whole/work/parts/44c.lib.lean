/-! what the class and the reference call of the library: System.arraycopy, Arrays.fill, String.indexOf -/
def zcpo (sp dp n : Int32) (n0 n1 : Nat) : Bool := decide (¬ (n < 0 ∨ dp < 0 ∨ sp < 0)) && decide (nx sp + nx n ≤ n0 ∧ nx dp + nx n ≤ n1)
section ZCP
variable {fz : Bool} {L : Nat} {xs : Nat → Int32} {d : Nat} {q : zMI} {pc c z idx : Nat} {lv : List (Nat × Value)} {st : List Value} {s s2 w : zσ} {r : zR} {a a0 n0 n1 : Nat} {sp dp n : Int32}
theorem cCP (hd : decode q.2.2.1 pc = .ok (.invokestatic idx, 3)) (hcp : zcp q.1 idx = true) (hw : decide (zwd st ≤ 8) = true) (g1 : zcs a0 = true) (g2 : zsh a0 = (1, 0, n0)) (h1 : zcs a = true) (h2 : zsh a = (1, 0, n1)) (hi : zcpo sp dp n n0 n1 = true) (e : s2 = sC s a0 (nx sp) a (nx dp) (nx n)) (h : zGo (zX fz L xs) (d + 1) q (pc + 3, lv, st, zmk s2 w, c, z) r) : zGo (zX fz L xs) (d + 1) q (pc, lv, .int n :: .int dp :: .ref a :: .int sp :: .ref a0 :: st, zmk s w, c, z) r := by
  unfold zcpo at hi
  simp only [Bool.and_eq_true, decide_eq_true_eq] at hi
  have e1 : sOb q.1 (.invokestatic idx) (.int n :: .int dp :: .ref a :: .int sp :: .ref a0 :: st) (zmk s w) = some (st, zmk s2 w) := by
    simp only [sOb]
    rw [if_pos ⟨hcp, of_decide_eq_true hw⟩, hget_c g1, hget_c h1, g2, h2]
    simp only [zcell]
    rw [if_neg hi.1, if_pos hi.2]
    have hk := zmk_set_c (w := w) h1 (zoff_C (s := s) (a0 := a0) (sp := nx sp) (dp := nx dp) (n := nx n))
    rw [h2] at hk
    have e2 : ((sC s a0 (nx sp) a (nx dp) (nx n)).1 a) = va_cpy (s.1 a0) (s.1 a) (nx sp) (nx dp) (nx n) := if_pos rfl
    rw [e2, ← e] at hk
    exact congrArg (fun x => some (st, x)) hk
  refine zGo_s (pc' := pc + 3) (st' := st) (lv' := lv) (hp' := zmk s2 w) (c' := c) (z' := z) hd ?_ h
  simp only [zstep, sStk, sLd, sSv, sBr, sHp, sCo, sNw, e1, if_pos (Nat.le_add_left 1 d)]
  rfl
end ZCP
theorem sF_0 (s : zσ) (a lo : Nat) (v : Int32) : sF s a lo lo v = s := by
  unfold sF
  have e : (fun b => if b = a then zfil (s.1 a) lo lo v else s.1 b) = s.1 := by
    funext b
    split
    · next h => subst h; funext j; exact if_neg (by omega)
    · rfl
  rw [e]
theorem sF_s (s : zσ) (a lo i : Nat) (v : Int32) (h : lo ≤ i) : sI (sF s a lo i v) a i v = sF s a lo (i + 1) v := by
  unfold sF sI
  have e : (fun b => if b = a then upd ((fun b => if b = a then zfil (s.1 a) lo i v else s.1 b) a) i v else (fun b => if b = a then zfil (s.1 a) lo i v else s.1 b) b) = (fun b => if b = a then zfil (s.1 a) lo (i + 1) v else s.1 b) := by
    funext b
    by_cases hb : b = a
    · subst hb
      simp only [if_true]
      funext j
      unfold upd zfil
      by_cases hj : j = i
      · subst hj
        rw [if_pos rfl, if_pos (by omega)]
      · rw [if_neg hj]
        by_cases h2 : lo ≤ j ∧ j < i
        · rw [if_pos h2, if_pos (by omega)]
        · rw [if_neg h2, if_neg (by omega)]
    · simp only [if_neg hb]
  exact congrArg (fun x => (x, s.2)) e
def zrgo (fr to : Int32) (n : Nat) : Bool := decide (¬ to < fr ∧ ¬ fr < 0 ∧ ¬ nI n < to)
theorem nI_nx {x : Int32} (h : ¬ x < 0) : nI (nx x) = x := by
  obtain ⟨j, hj, rfl⟩ := nI_of h
  exact congrArg nI (nI_clamp hj)
section ZFI
variable {fz : Bool} {L : Nat} {xs : Nat → Int32} {d : Nat} {s s2 w : zσ} {a len : Nat} {v : Int32}
abbrev q_22 : zMI := (27, yJ7_fill_53178, cJ7_fill_53178, 4, none, 2, 2)
abbrev q_102 : zMI := (27, yJ7_fill_fda19, cJ7_fill_fda19, 5, none, 4, 2)
abbrev q_103 : zMI := (27, yJ7_rangeCheck_23922, cJ7_rangeCheck_23922, 3, none, 3, 2)
theorem dd22_0 : decode cJ7_fill_53178 0 = .ok (.iconst 0, 1) := by decide +kernel
theorem dd22_1 : decode cJ7_fill_53178 1 = .ok (.istore_n 2, 1) := by decide +kernel
theorem dd22_2 : decode cJ7_fill_53178 2 = .ok (.aload_n 0, 1) := by decide +kernel
theorem dd22_3 : decode cJ7_fill_53178 3 = .ok (.arraylength, 1) := by decide +kernel
theorem dd22_4 : decode cJ7_fill_53178 4 = .ok (.istore_n 3, 1) := by decide +kernel
theorem dd22_5 : decode cJ7_fill_53178 5 = .ok (.iload_n 2, 1) := by decide +kernel
theorem dd22_6 : decode cJ7_fill_53178 6 = .ok (.iload_n 3, 1) := by decide +kernel
theorem dd22_7 : decode cJ7_fill_53178 7 = .ok (.if_icmp .ge 13, 3) := by decide +kernel
theorem dd22_10 : decode cJ7_fill_53178 10 = .ok (.aload_n 0, 1) := by decide +kernel
theorem dd22_11 : decode cJ7_fill_53178 11 = .ok (.iload_n 2, 1) := by decide +kernel
theorem dd22_12 : decode cJ7_fill_53178 12 = .ok (.iload_n 1, 1) := by decide +kernel
theorem dd22_13 : decode cJ7_fill_53178 13 = .ok (.iastore, 1) := by decide +kernel
theorem dd22_14 : decode cJ7_fill_53178 14 = .ok (.iinc 2 1, 3) := by decide +kernel
theorem dd22_17 : decode cJ7_fill_53178 17 = .ok (.goto (-12), 3) := by decide +kernel
theorem dd22_20 : decode cJ7_fill_53178 20 = .ok (.return_, 1) := by decide +kernel
theorem dd102_0 : decode cJ7_fill_fda19 0 = .ok (.aload_n 0, 1) := by decide +kernel
theorem dd102_1 : decode cJ7_fill_fda19 1 = .ok (.arraylength, 1) := by decide +kernel
theorem dd102_2 : decode cJ7_fill_fda19 2 = .ok (.iload_n 1, 1) := by decide +kernel
theorem dd102_3 : decode cJ7_fill_fda19 3 = .ok (.iload_n 2, 1) := by decide +kernel
theorem dd102_4 : decode cJ7_fill_fda19 4 = .ok (.invokestatic 13, 3) := by decide +kernel
theorem dd102_7 : decode cJ7_fill_fda19 7 = .ok (.iload_n 1, 1) := by decide +kernel
theorem dd102_8 : decode cJ7_fill_fda19 8 = .ok (.istore 4, 2) := by decide +kernel
theorem dd102_10 : decode cJ7_fill_fda19 10 = .ok (.iload 4, 2) := by decide +kernel
theorem dd102_12 : decode cJ7_fill_fda19 12 = .ok (.iload_n 2, 1) := by decide +kernel
theorem dd102_13 : decode cJ7_fill_fda19 13 = .ok (.if_icmp .ge 14, 3) := by decide +kernel
theorem dd102_16 : decode cJ7_fill_fda19 16 = .ok (.aload_n 0, 1) := by decide +kernel
theorem dd102_17 : decode cJ7_fill_fda19 17 = .ok (.iload 4, 2) := by decide +kernel
theorem dd102_19 : decode cJ7_fill_fda19 19 = .ok (.iload_n 3, 1) := by decide +kernel
theorem dd102_20 : decode cJ7_fill_fda19 20 = .ok (.iastore, 1) := by decide +kernel
theorem dd102_21 : decode cJ7_fill_fda19 21 = .ok (.iinc 4 1, 3) := by decide +kernel
theorem dd102_24 : decode cJ7_fill_fda19 24 = .ok (.goto (-14), 3) := by decide +kernel
theorem dd102_27 : decode cJ7_fill_fda19 27 = .ok (.return_, 1) := by decide +kernel
theorem dd103_0 : decode cJ7_rangeCheck_23922 0 = .ok (.iload_n 1, 1) := by decide +kernel
theorem dd103_1 : decode cJ7_rangeCheck_23922 1 = .ok (.iload_n 2, 1) := by decide +kernel
theorem dd103_2 : decode cJ7_rangeCheck_23922 2 = .ok (.if_icmp .le 44, 3) := by decide +kernel
theorem dd103_5 : decode cJ7_rangeCheck_23922 5 = .ok (.new 43, 3) := by decide +kernel
theorem dd103_8 : decode cJ7_rangeCheck_23922 8 = .ok (.dup, 1) := by decide +kernel
theorem dd103_9 : decode cJ7_rangeCheck_23922 9 = .ok (.new 45, 3) := by decide +kernel
theorem dd103_12 : decode cJ7_rangeCheck_23922 12 = .ok (.dup, 1) := by decide +kernel
theorem dd103_13 : decode cJ7_rangeCheck_23922 13 = .ok (.invokespecial 47, 3) := by decide +kernel
theorem dd103_16 : decode cJ7_rangeCheck_23922 16 = .ok (.ldc 48, 2) := by decide +kernel
theorem dd103_18 : decode cJ7_rangeCheck_23922 18 = .ok (.invokevirtual 50, 3) := by decide +kernel
theorem dd103_21 : decode cJ7_rangeCheck_23922 21 = .ok (.iload_n 1, 1) := by decide +kernel
theorem dd103_22 : decode cJ7_rangeCheck_23922 22 = .ok (.invokevirtual 54, 3) := by decide +kernel
theorem dd103_25 : decode cJ7_rangeCheck_23922 25 = .ok (.ldc 57, 2) := by decide +kernel
theorem dd103_27 : decode cJ7_rangeCheck_23922 27 = .ok (.invokevirtual 50, 3) := by decide +kernel
theorem dd103_30 : decode cJ7_rangeCheck_23922 30 = .ok (.iload_n 2, 1) := by decide +kernel
theorem dd103_31 : decode cJ7_rangeCheck_23922 31 = .ok (.invokevirtual 54, 3) := by decide +kernel
theorem dd103_34 : decode cJ7_rangeCheck_23922 34 = .ok (.ldc 59, 2) := by decide +kernel
theorem dd103_36 : decode cJ7_rangeCheck_23922 36 = .ok (.invokevirtual 50, 3) := by decide +kernel
theorem dd103_39 : decode cJ7_rangeCheck_23922 39 = .ok (.invokevirtual 61, 3) := by decide +kernel
theorem dd103_42 : decode cJ7_rangeCheck_23922 42 = .ok (.invokespecial 65, 3) := by decide +kernel
theorem dd103_45 : decode cJ7_rangeCheck_23922 45 = .ok (.athrow, 1) := by decide +kernel
theorem dd103_46 : decode cJ7_rangeCheck_23922 46 = .ok (.iload_n 1, 1) := by decide +kernel
theorem dd103_47 : decode cJ7_rangeCheck_23922 47 = .ok (.ifCond .ge 12, 3) := by decide +kernel
theorem dd103_50 : decode cJ7_rangeCheck_23922 50 = .ok (.new 68, 3) := by decide +kernel
theorem dd103_53 : decode cJ7_rangeCheck_23922 53 = .ok (.dup, 1) := by decide +kernel
theorem dd103_54 : decode cJ7_rangeCheck_23922 54 = .ok (.iload_n 1, 1) := by decide +kernel
theorem dd103_55 : decode cJ7_rangeCheck_23922 55 = .ok (.invokespecial 70, 3) := by decide +kernel
theorem dd103_58 : decode cJ7_rangeCheck_23922 58 = .ok (.athrow, 1) := by decide +kernel
theorem dd103_59 : decode cJ7_rangeCheck_23922 59 = .ok (.iload_n 2, 1) := by decide +kernel
theorem dd103_60 : decode cJ7_rangeCheck_23922 60 = .ok (.iload_n 0, 1) := by decide +kernel
theorem dd103_61 : decode cJ7_rangeCheck_23922 61 = .ok (.if_icmp .le 12, 3) := by decide +kernel
theorem dd103_64 : decode cJ7_rangeCheck_23922 64 = .ok (.new 68, 3) := by decide +kernel
theorem dd103_67 : decode cJ7_rangeCheck_23922 67 = .ok (.dup, 1) := by decide +kernel
theorem dd103_68 : decode cJ7_rangeCheck_23922 68 = .ok (.iload_n 2, 1) := by decide +kernel
theorem dd103_69 : decode cJ7_rangeCheck_23922 69 = .ok (.invokespecial 70, 3) := by decide +kernel
theorem dd103_72 : decode cJ7_rangeCheck_23922 72 = .ok (.athrow, 1) := by decide +kernel
theorem dd103_73 : decode cJ7_rangeCheck_23922 73 = .ok (.return_, 1) := by decide +kernel
theorem g_fill_L (ha : zcs a = true) (hs : zsh a = (1, 0, len)) (hl : len < 2 ^ 31) : ∀ (m i : Nat), i + m = len → zGo (zX fz L xs) d q_22 (5, [(0, .ref a), (1, .int v), (2, .int (nI i)), (3, .int (nI len))], [], zmk (sF s a 0 i v) w, 0, 0) (none, zmk (sF s a 0 len v) w, 0, 0) := by
  intro m
  induction m with
  | zero =>
    intro i hi
    have e : i = len := by omega
    subst e
    refine zGo_s (pc' := 6) (st' := [.int (nI i)]) dd22_5 rfl ?_
    refine zGo_s (pc' := 7) (st' := [.int (nI i), .int (nI i)]) dd22_6 rfl ?_
    refine zIT dd22_7 rfl (kGeT Int32.lt_irrefl) ?_
    exact zGo_ret dd22_20 rfl rfl
  | succ m ih =>
    intro i hi
    have hlt : nI i < nI len := nI_lt (by omega) hl
    have hin : zin? (nI i) len = true := zin?_nI (by omega) hl
    have hn : nx (nI i) = i := nI_clamp (by omega)
    refine zGo_s (pc' := 6) (st' := [.int (nI i)]) dd22_5 rfl ?_
    refine zGo_s (pc' := 7) (st' := [.int (nI len), .int (nI i)]) dd22_6 rfl ?_
    refine zIF dd22_7 (kGeF hlt) ?_
    refine zGo_s (pc' := 11) (st' := [.ref a]) dd22_10 rfl ?_
    refine zGo_s (pc' := 12) (st' := [.int (nI i), .ref a]) dd22_11 rfl ?_
    refine zGo_s (pc' := 13) (st' := [.int v, .int (nI i), .ref a]) dd22_12 rfl ?_
    refine cIS dd22_13 ha hs hin (s2 := sF s a 0 (i + 1) v) (by rw [hn, sF_s s a 0 i v (Nat.zero_le _)]) ?_
    refine zGo_s (pc' := 17) (st' := []) (lv' := [(2, .int (nI i + 1)), (0, .ref a), (1, .int v), (3, .int (nI len))]) dd22_14 rfl ?_
    refine zGo_s (pc' := 5) (st' := []) dd22_17 rfl ?_
    rw [nI_1]
    exact zGo_lv (lv := [(0, .ref a), (1, .int v), (2, .int (nI (i + 1))), (3, .int (nI len))]) ⟨by simp, by simp, by simp⟩ (ih (i + 1) (by omega))
theorem g_fillc (ha : zcs a = true) (hs : zsh a = (1, 0, len)) (hl : len < 2 ^ 31) (e : s2 = sF s a 0 len v) : zGo (zX fz L xs) d q_22 (0, [(0, .ref a), (1, .int v)], [], zmk s w, 0, 0) (none, zmk s2 w, 0, 0) := by
  subst e
  refine zGo_s (pc' := 1) (st' := [.int (nI 0)]) dd22_0 rfl ?_
  refine zGo_s (pc' := 2) (st' := []) (lv' := [(2, .int (nI 0)), (0, .ref a), (1, .int v)]) dd22_1 rfl ?_
  refine zGo_s (pc' := 3) (st' := [.ref a]) dd22_2 rfl ?_
  refine cAL dd22_3 ha hs (by decide) ?_
  refine zGo_s (pc' := 5) (st' := []) (lv' := [(3, .int (nI len)), (2, .int (nI 0)), (0, .ref a), (1, .int v)]) dd22_4 rfl ?_
  refine zGo_lv (lv := [(0, .ref a), (1, .int v), (2, .int (nI 0)), (3, .int (nI len))]) ⟨by simp, by simp, by simp⟩ ?_
  have h := g_fill_L (fz := fz) (L := L) (xs := xs) (d := d) (s := s) (w := w) (v := v) ha hs hl len 0 (by omega)
  rw [sF_0] at h
  exact h
theorem g_fillr_L {lo hi : Nat} (ha : zcs a = true) (hs : zsh a = (1, 0, len)) (hl : len < 2 ^ 31) (hh : hi ≤ len) : ∀ (m i : Nat), lo ≤ i → i + m = hi → zGo (zX fz L xs) d q_102 (10, [(0, .ref a), (2, .int (nI hi)), (3, .int v), (4, .int (nI i))], [], zmk (sF s a lo i v) w, 0, 0) (none, zmk (sF s a lo hi v) w, 0, 0) := by
  intro m
  induction m with
  | zero =>
    intro i _ he
    subst he
    refine zGo_s (pc' := 12) (st' := [.int (nI i)]) dd102_10 rfl ?_
    refine zGo_s (pc' := 13) (st' := [.int (nI i), .int (nI i)]) dd102_12 rfl ?_
    refine zIT dd102_13 rfl (kGeT Int32.lt_irrefl) ?_
    exact zGo_ret dd102_27 rfl rfl
  | succ m ih =>
    intro i hlo he
    have hlt : nI i < nI hi := nI_lt (by omega) (by omega)
    have hin : zin? (nI i) len = true := zin?_nI (by omega) hl
    have hn : nx (nI i) = i := nI_clamp (by omega)
    refine zGo_s (pc' := 12) (st' := [.int (nI i)]) dd102_10 rfl ?_
    refine zGo_s (pc' := 13) (st' := [.int (nI hi), .int (nI i)]) dd102_12 rfl ?_
    refine zIF dd102_13 (kGeF hlt) ?_
    refine zGo_s (pc' := 17) (st' := [.ref a]) dd102_16 rfl ?_
    refine zGo_s (pc' := 19) (st' := [.int (nI i), .ref a]) dd102_17 rfl ?_
    refine zGo_s (pc' := 20) (st' := [.int v, .int (nI i), .ref a]) dd102_19 rfl ?_
    refine cIS dd102_20 ha hs hin (s2 := sF s a lo (i + 1) v) (by rw [hn, sF_s s a lo i v hlo]) ?_
    refine zGo_s (pc' := 24) (st' := []) (lv' := [(4, .int (nI i + 1)), (0, .ref a), (2, .int (nI hi)), (3, .int v)]) dd102_21 rfl ?_
    refine zGo_s (pc' := 10) (st' := []) dd102_24 rfl ?_
    rw [nI_1]
    exact zGo_lv (lv := [(0, .ref a), (2, .int (nI hi)), (3, .int v), (4, .int (nI (i + 1)))]) ⟨by simp, by simp, by simp⟩ (ih (i + 1) (by omega) (by omega))
/-- Arrays.rangeCheck, where all is well -/
theorem g_range {n fr to : Int32} {hp : List PE} (h1 : ¬ to < fr) (h2 : ¬ fr < 0) (h3 : ¬ n < to) : zGo (zX fz L xs) d q_103 (0, [(0, .int n), (1, .int fr), (2, .int to)], [], hp, 0, 0) (none, hp, 0, 0) := by
  refine zGo_s (pc' := 1) (st' := [.int fr]) dd103_0 rfl ?_
  refine zGo_s (pc' := 2) (st' := [.int to, .int fr]) dd103_1 rfl ?_
  refine zIT dd103_2 rfl (kLeT h1) ?_
  refine zGo_s (pc' := 47) (st' := [.int fr]) dd103_46 rfl ?_
  refine zUT dd103_47 rfl (kGeT h2) ?_
  refine zGo_s (pc' := 60) (st' := [.int to]) dd103_59 rfl ?_
  refine zGo_s (pc' := 61) (st' := [.int n, .int to]) dd103_60 rfl ?_
  refine zIT dd103_61 rfl (kLeT h3) ?_
  exact zGo_ret dd103_73 rfl rfl
theorem g_fillrc {fr to : Int32} (ha : zcs a = true) (hs : zsh a = (1, 0, len)) (hl : len < 2 ^ 31) (hr : zrgo fr to len = true) (e : s2 = sF s a (nx fr) (nx to) v) (hd : 1 ≤ d) : zGo (zX fz L xs) d q_102 (0, [(0, .ref a), (1, .int fr), (2, .int to), (3, .int v)], [], zmk s w, 0, 0) (none, zmk s2 w, 0, 0) := by
  subst e
  obtain ⟨d, rfl⟩ : ∃ d0, d = d0 + 1 := ⟨d - 1, by omega⟩
  obtain ⟨h1, h2, h3⟩ := of_decide_eq_true hr
  refine zGo_s (pc' := 1) (st' := [.ref a]) dd102_0 rfl ?_
  refine cAL dd102_1 ha hs (by decide) ?_
  refine zGo_s (pc' := 3) (st' := [.int fr, .int (nI len)]) dd102_2 rfl ?_
  refine zGo_s (pc' := 4) (st' := [.int to, .int fr, .int (nI len)]) dd102_3 rfl ?_
  refine zCS0 (As := [.int (nI len), .int fr, .int to]) (rest := []) (q' := q_103) dd102_4 rfl rfl rfl rfl rfl (g_range h1 h2 h3) ?_
  refine zGo_s (pc' := 8) (st' := [.int fr]) dd102_7 rfl ?_
  refine zGo_s (pc' := 10) (st' := []) (lv' := [(4, .int fr), (0, .ref a), (1, .int fr), (2, .int to), (3, .int v)]) dd102_8 rfl ?_
  obtain ⟨lo, hlo, rfl⟩ := nI_of h2
  obtain ⟨hi, hhi, rfl⟩ : ∃ j : Nat, j < 2 ^ 31 ∧ to = nI j := nI_of (fun q => h1 (Int32.lt_of_lt_of_le q (nI_pos' hlo)))
  have h4 : lo ≤ hi := Nat.not_lt.mp (fun q => h1 (nI_lt q hlo))
  have h5 : hi ≤ len := Nat.not_lt.mp (fun q => h3 (nI_lt q hhi))
  refine zGo_lv (lv := [(0, .ref a), (2, .int (nI hi)), (3, .int v), (4, .int (nI lo))]) ⟨by simp, by simp, by simp⟩ ?_
  have h := g_fillr_L (fz := fz) (L := L) (xs := xs) (d := d + 1) (s := s) (w := w) (v := v) (lo := lo) ha hs hl h5 (hi - lo) lo (Nat.le_refl _) (by omega)
  rw [sF_0] at h
  rw [show nx (nI lo) = lo from nI_clamp hlo, show nx (nI hi) = hi from nI_clamp hhi]
  exact h
end ZFI
