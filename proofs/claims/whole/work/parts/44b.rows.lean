/-! rows that the models use -/
section ZR4
variable {X : zXT} {d : Nat} {q : zMI} {pc c z : Nat} {lv : List (Nat × Value)} {st : List Value} {hp : List PE} {r : zR} {ins : Instr} {len : Nat} {x' : zS}
theorem zGo_is1 {x y : Int32} (e : y = x) (hd : decode q.2.2.1 pc = .ok (ins, len)) (hs : zstep X d q ins len (pc, lv, .int y :: st, hp, c, z) = some x') (h : zGo X d q x' r) : zGo X d q (pc, lv, .int x :: st, hp, c, z) r := by
  subst e
  exact zGo_step hd hs h
theorem zGo_is2 {x y : Int64} (e : y = x) (hd : decode q.2.2.1 pc = .ok (ins, len)) (hs : zstep X d q ins len (pc, lv, .long y :: st, hp, c, z) = some x') (h : zGo X d q x' r) : zGo X d q (pc, lv, .long x :: st, hp, c, z) r := by
  subst e
  exact zGo_step hd hs h
theorem zGo_ldd {x y : Int64} (hd : decode q.2.2.1 pc = .ok (.ldiv, 1)) (hc : ¬ y = 0) (h : zGo X d q (pc + 1, lv, .long (x / y) :: st, hp, c, z) r) : zGo X d q (pc, lv, .long y :: .long x :: st, hp, c, z) r := by
  refine zGo_s hd ?_ h
  simp only [zstep, sStk, zm2, if_neg hc]
  rfl
theorem zGo_ldr {x y : Int64} (hd : decode q.2.2.1 pc = .ok (.lrem, 1)) (hc : ¬ y = 0) (h : zGo X d q (pc + 1, lv, .long (x - x / y * y) :: st, hp, c, z) r) : zGo X d q (pc, lv, .long y :: .long x :: st, hp, c, z) r := by
  refine zGo_s hd ?_ h
  simp only [zstep, sStk, zm2, if_neg hc]
  rfl
theorem zIT {cd : Jvm.ClassFile.Cond} {off : Int} {x y : Int32} {t : Nat} (hd : decode q.2.2.1 pc = .ok (.if_icmp cd off, 3)) (ht : zjmp pc off = some t) (hc : zcnd cd x y = true) (h : zGo X d q (t, lv, st, hp, c, z) r) : zGo X d q (pc, lv, .int y :: .int x :: st, hp, c, z) r :=
  zGo_icmp hd ht (fun _ => h) (fun e => by rw [hc] at e; cases e)
theorem zIF {cd : Jvm.ClassFile.Cond} {off : Int} {x y : Int32} {t : Nat} (hd : decode q.2.2.1 pc = .ok (.if_icmp cd off, 3)) (hc : zcnd cd x y = false) (h : zGo X d q (pc + 3, lv, st, hp, c, z) r) (ht : zjmp pc off = some t := by rfl) : zGo X d q (pc, lv, .int y :: .int x :: st, hp, c, z) r :=
  zGo_icmp hd ht (fun e => by rw [hc] at e; cases e) (fun _ => h)
theorem zUT {cd : Jvm.ClassFile.Cond} {off : Int} {x : Int32} {t : Nat} (hd : decode q.2.2.1 pc = .ok (.ifCond cd off, 3)) (ht : zjmp pc off = some t) (hc : zcnd cd x 0 = true) (h : zGo X d q (t, lv, st, hp, c, z) r) : zGo X d q (pc, lv, .int x :: st, hp, c, z) r :=
  zGo_if hd ht (fun _ => h) (fun e => by rw [hc] at e; cases e)
theorem zUF {cd : Jvm.ClassFile.Cond} {off : Int} {x : Int32} {t : Nat} (hd : decode q.2.2.1 pc = .ok (.ifCond cd off, 3)) (hc : zcnd cd x 0 = false) (h : zGo X d q (pc + 3, lv, st, hp, c, z) r) (ht : zjmp pc off = some t := by rfl) : zGo X d q (pc, lv, .int x :: st, hp, c, z) r :=
  zGo_if hd ht (fun e => by rw [hc] at e; cases e) (fun _ => h)
theorem zGo_sw {dflt lo hi o : Int} {offs : Array Int} {x : Int32} {len t : Nat} (hd : decode q.2.2.1 pc = .ok (.tableswitch dflt lo hi offs, len)) (ho : ztoff dflt lo hi offs x.toInt = some o) (ht : zjmp pc o = some t) (h : zGo X d q (t, lv, st, hp, c, z) r) : zGo X d q (pc, lv, .int x :: st, hp, c, z) r := by
  refine zGo_step hd (x' := (t, lv, st, hp, c, z)) ?_ h
  simp only [zstep, sStk, sLd, sSv, sBr, zsw, ho, ht]
theorem zGo_lw {dflt o : Int} {ps : Array (Int × Int)} {x : Int32} {len t : Nat} (hd : decode q.2.2.1 pc = .ok (.lookupswitch dflt ps, len)) (ho : zloff dflt ps x.toInt = some o) (ht : zjmp pc o = some t) (h : zGo X d q (t, lv, st, hp, c, z) r) : zGo X d q (pc, lv, .int x :: st, hp, c, z) r := by
  refine zGo_step hd (x' := (t, lv, st, hp, c, z)) ?_ h
  simp only [zstep, sStk, sLd, sSv, sBr, zsw, ho, ht]
end ZR4
theorem zto_d {dflt lo hi : Int} {offs : Array Int} {x : Int32} (h1 : -2147483648 ≤ lo) (h2 : hi < 2147483648) (h : ∀ k : Nat, lo + k ≤ hi → offs[k]? = some dflt ∨ ¬ x = Int32.ofInt (lo + k)) : ztoff dflt lo hi offs x.toInt = some dflt := by
  unfold ztoff
  by_cases hx : x.toInt < lo ∨ hi < x.toInt
  · rw [if_pos hx]
  · rw [if_neg hx]
    have h3 : lo + ((x.toInt - lo).toNat : Int) = x.toInt := by omega
    rcases h (x.toInt - lo).toNat (by omega) with h4 | h4
    · exact h4
    · exact absurd (by rw [h3]; exact (Int32.ofInt_toInt x).symm) h4
theorem zlo_f {ps : List (Int × Int)} {x : Int} (h : ∀ p ∈ ps, ¬ p.1 = x) : ps.find? (fun p => p.1 == x) = none := by
  rw [List.find?_eq_none]
  intro p hp
  simpa using h p hp
theorem zlo_d {dflt : Int} {ps : Array (Int × Int)} {x : Int32} (h0 : (ps.toList.zip (ps.toList.drop 1)).all (fun (a, next) => a.1 < next.1) = true) (h : ∀ p ∈ ps.toList, ¬ x = Int32.ofInt p.1) : zloff dflt ps x.toInt = some dflt := by
  unfold zloff
  rw [if_pos h0, Op.lookupswitch.offset_none (zlo_f (fun p hp e => h p hp (by rw [e]; exact (Int32.ofInt_toInt x).symm)))]
/-! conditions -/
section ZK4
variable {x y : Int32}
theorem kEqT (h : x = y) : zcnd .eq x y = true := decide_eq_true h
theorem kEqF (h : ¬ x = y) : zcnd .eq x y = false := decide_eq_false h
theorem kNeT (h : ¬ x = y) : zcnd .ne x y = true := by simp [zcnd, h]
theorem kNeF (h : x = y) : zcnd .ne x y = false := by simp [zcnd, h]
theorem kLtT (h : x < y) : zcnd .lt x y = true := decide_eq_true h
theorem kLtF (h : ¬ x < y) : zcnd .lt x y = false := decide_eq_false h
theorem kGeT (h : ¬ x < y) : zcnd .ge x y = true := decide_eq_true (Int32.not_lt.mp h)
theorem kGeF (h : x < y) : zcnd .ge x y = false := decide_eq_false (Int32.not_le.mpr h)
theorem kGtT (h : y < x) : zcnd .gt x y = true := decide_eq_true h
theorem kGtF (h : ¬ y < x) : zcnd .gt x y = false := decide_eq_false h
theorem kLeT (h : ¬ y < x) : zcnd .le x y = true := decide_eq_true (Int32.not_lt.mp h)
theorem kLeF (h : y < x) : zcnd .le x y = false := decide_eq_false (Int32.not_le.mpr h)
end ZK4
section ZL4
variable {x y : Int64}
theorem kcEqT (h : x = y) : zcnd .eq (lg_cmp x y) 0 = true := kEqT ((lg_cmp_eq x y).mpr h)
theorem kcEqF (h : ¬ x = y) : zcnd .eq (lg_cmp x y) 0 = false := kEqF (fun e => h ((lg_cmp_eq x y).mp e))
theorem kcNeT (h : ¬ x = y) : zcnd .ne (lg_cmp x y) 0 = true := kNeT (fun e => h ((lg_cmp_eq x y).mp e))
theorem kcNeF (h : x = y) : zcnd .ne (lg_cmp x y) 0 = false := kNeF ((lg_cmp_eq x y).mpr h)
theorem kcLtT (h : x < y) : zcnd .lt (lg_cmp x y) 0 = true := kLtT ((lg_cmp_lt x y).mpr h)
theorem kcLtF (h : ¬ x < y) : zcnd .lt (lg_cmp x y) 0 = false := kLtF (fun e => h ((lg_cmp_lt x y).mp e))
theorem kcGeT (h : ¬ x < y) : zcnd .ge (lg_cmp x y) 0 = true := kGeT (fun e => h ((lg_cmp_lt x y).mp e))
theorem kcGeF (h : x < y) : zcnd .ge (lg_cmp x y) 0 = false := kGeF ((lg_cmp_lt x y).mpr h)
theorem kcGtT (h : y < x) : zcnd .gt (lg_cmp x y) 0 = true := kGtT ((lg_cmp_gt x y).mpr h)
theorem kcGtF (h : ¬ y < x) : zcnd .gt (lg_cmp x y) 0 = false := kGtF (fun e => h ((lg_cmp_gt x y).mp e))
theorem kcLeT (h : ¬ y < x) : zcnd .le (lg_cmp x y) 0 = true := kLeT (fun e => h ((lg_cmp_gt x y).mp e))
theorem kcLeF (h : y < x) : zcnd .le (lg_cmp x y) 0 = false := kLeF ((lg_cmp_gt x y).mpr h)
end ZL4
/-! calls -/
section ZC4
variable {fz : Bool} {L : Nat} {xs : Nat → Int32} {d : Nat} {q q' : zMI} {pc c z idx b : Nat} {lv : List (Nat × Value)} {st As rest : List Value} {hp hp' : List PE} {r : zR} {v : Value}
theorem zGo_dm {d2 : Nat} {x : zS} (h : zGo (zX fz L xs) d q x r) (hd : d ≤ d2) : zGo (zX fz L xs) d2 q x r := by
  obtain ⟨n, h⟩ := h
  exact ⟨n, zrun_depth (fun _ _ _ _ _ => rfl) n d d2 q x r hd h⟩
theorem zCV1 (hd : decode q.2.2.1 pc = .ok (.invokevirtual idx, 3)) (hm : zmth q.1 idx = some q') (h0 : q'.2.2.2.2.2.2 = 0) (hr : zrcv q'.1 hp b = true) (hst : st = As.reverse ++ .ref b :: rest) (hn : As.length = q'.2.2.2.2.2.1) (hf : zfitA q' (.ref b :: As) rest = true) (h1 : zGo (zX fz L xs) d q' (0, lv_args 0 (.ref b :: As), [], hp, 0, 0) (some v, hp', 0, 0)) (h2 : zGo (zX fz L xs) (d + 1) q (pc + 3, lv, v :: rest, hp', c, z) r) : zGo (zX fz L xs) (d + 1) q (pc, lv, st, hp, c, z) r := by
  refine zGo_call (as := .ref b :: As) (rest := rest) (rv := some v) hd rfl rfl ?_ h1 h2
  show (match zmth q.1 idx with | some q => zcV q st hp | none => none) = _
  rw [hm]
  exact zcV_ok h0 hr hst hn hf
theorem zCV0 (hd : decode q.2.2.1 pc = .ok (.invokevirtual idx, 3)) (hm : zmth q.1 idx = some q') (h0 : q'.2.2.2.2.2.2 = 0) (hr : zrcv q'.1 hp b = true) (hst : st = As.reverse ++ .ref b :: rest) (hn : As.length = q'.2.2.2.2.2.1) (hf : zfitA q' (.ref b :: As) rest = true) (h1 : zGo (zX fz L xs) d q' (0, lv_args 0 (.ref b :: As), [], hp, 0, 0) (none, hp', 0, 0)) (h2 : zGo (zX fz L xs) (d + 1) q (pc + 3, lv, rest, hp', c, z) r) : zGo (zX fz L xs) (d + 1) q (pc, lv, st, hp, c, z) r := by
  refine zGo_call (as := .ref b :: As) (rest := rest) (rv := none) hd rfl rfl ?_ h1 h2
  show (match zmth q.1 idx with | some q => zcV q st hp | none => none) = _
  rw [hm]
  exact zcV_ok h0 hr hst hn hf
theorem zcS_ok (h0 : q'.2.2.2.2.2.2 = 2) (hst : st = As.reverse ++ rest) (hn : As.length = q'.2.2.2.2.2.1) (hf : zfitA q' As rest = true) : zcS q' st = some (q', As, rest) := by
  have hd : st.drop q'.2.2.2.2.2.1 = rest := by rw [hst]; exact List.drop_left' (by rw [List.length_reverse]; exact hn)
  have ht : st.take q'.2.2.2.2.2.1 = As.reverse := by rw [hst]; exact List.take_left' (by rw [List.length_reverse]; exact hn)
  unfold zcS
  rw [hd, ht]
  simp only [List.reverse_reverse, List.length_reverse]
  rw [if_pos ⟨h0, hn, hf⟩]
/-- an invokestatic that is a step of its own -/
def zown (cn idx : Nat) : Bool := zcp cn idx || (decide (cn = 21) && (decide (idx = 92) || decide (idx = 38)))
theorem sOb_st {cn : Nat} (h0 : zown cn idx = false) : sOb cn (.invokestatic idx) st hp = none := by
  unfold zown at h0
  simp only [Bool.or_eq_false_iff, Bool.and_eq_false_iff, decide_eq_false_iff_not] at h0
  obtain ⟨h, h2⟩ := h0
  have n1 : ¬ (cn = 21 ∧ idx = 92) := fun e => h2.elim (fun q => q e.1) (fun q => q.1 e.2)
  have n2 : ¬ (cn = 21 ∧ idx = 38) := fun e => h2.elim (fun q => q e.1) (fun q => q.2 e.2)
  simp only [sOb]
  split
  · rw [if_neg (fun e => by rw [h] at e; cases e.1)]
  · rw [if_neg n1, if_neg n2]
    split <;> rfl
  · rfl
theorem zstep_st (h : zown q.1 idx = false) : zstep (zX fz L xs) d q (.invokestatic idx) 3 (pc, lv, st, hp, c, z) = none := by
  simp only [zstep, sStk, sLd, sSv, sBr, sHp, sCo, sNw, sOb_st h]
  rfl
theorem zCS1 (hd : decode q.2.2.1 pc = .ok (.invokestatic idx, 3)) (hm : zmth q.1 idx = some q') (h0 : q'.2.2.2.2.2.2 = 2) (hst : st = As.reverse ++ rest) (hn : As.length = q'.2.2.2.2.2.1) (hf : zfitA q' As rest = true) (h1 : zGo (zX fz L xs) d q' (0, lv_args 0 As, [], hp, 0, 0) (some v, hp', 0, 0)) (h2 : zGo (zX fz L xs) (d + 1) q (pc + 3, lv, v :: rest, hp', c, z) r) (hcp : zown q.1 idx = false := by rfl) : zGo (zX fz L xs) (d + 1) q (pc, lv, st, hp, c, z) r := by
  refine zGo_call (as := As) (rest := rest) (rv := some v) hd (zstep_st hcp) rfl ?_ h1 h2
  show (match zmth q.1 idx with | some q => zcS q st | none => none) = _
  rw [hm]
  exact zcS_ok h0 hst hn hf
theorem zCS0 (hd : decode q.2.2.1 pc = .ok (.invokestatic idx, 3)) (hm : zmth q.1 idx = some q') (h0 : q'.2.2.2.2.2.2 = 2) (hst : st = As.reverse ++ rest) (hn : As.length = q'.2.2.2.2.2.1) (hf : zfitA q' As rest = true) (h1 : zGo (zX fz L xs) d q' (0, lv_args 0 As, [], hp, 0, 0) (none, hp', 0, 0)) (h2 : zGo (zX fz L xs) (d + 1) q (pc + 3, lv, rest, hp', c, z) r) (hcp : zown q.1 idx = false := by rfl) : zGo (zX fz L xs) (d + 1) q (pc, lv, st, hp, c, z) r := by
  refine zGo_call (as := As) (rest := rest) (rv := none) hd (zstep_st hcp) rfl ?_ h1 h2
  show (match zmth q.1 idx with | some q => zcS q st | none => none) = _
  rw [hm]
  exact zcS_ok h0 hst hn hf
theorem zGo_mx {x y : Int32} (hd : decode q.2.2.1 pc = .ok (.invokestatic 92, 3)) (hq : q.1 = 21) (hw : decide (zwd [] ≤ 8) = true) (h : zGo (zX fz L xs) (d + 1) q (pc + 3, lv, [.int (if x < y then y else x)], hp, c, z) r) : zGo (zX fz L xs) (d + 1) q (pc, lv, [.int y, .int x], hp, c, z) r := by
  refine zGo_s hd ?_ h
  have e1 : sOb q.1 (.invokestatic 92) [.int y, .int x] hp = some ([.int (if x < y then y else x)], hp) := by
    rw [hq]
    rfl
  simp only [zstep, sStk, sLd, sSv, sBr, sHp, sCo, sNw, e1, if_pos (Nat.le_add_left 1 d)]
  rfl
theorem zGo_mn {x y : Int32} (hd : decode q.2.2.1 pc = .ok (.invokestatic 38, 3)) (hq : q.1 = 21) (hw : decide (zwd [] ≤ 8) = true) (h : zGo (zX fz L xs) (d + 1) q (pc + 3, lv, [.int (if y < x then y else x)], hp, c, z) r) : zGo (zX fz L xs) (d + 1) q (pc, lv, [.int y, .int x], hp, c, z) r := by
  refine zGo_s hd ?_ h
  have e1 : sOb q.1 (.invokestatic 38) [.int y, .int x] hp = some ([.int (if y < x then y else x)], hp) := by
    rw [hq]
    rfl
  simp only [zstep, sStk, sLd, sSv, sBr, sHp, sCo, sNw, e1, if_pos (Nat.le_add_left 1 d)]
  rfl
/-- the static array of the class -/
theorem zGo_s60 {i : Int32} (hd : decode q.2.2.1 pc = .ok (.iaload, 1)) (hi : zin? i 9 = true) (h : zGo (zX fz L xs) d q (pc + 1, lv, .int (zmost.getD (nx i) 0) :: st, hp, c, z) r) : zGo (zX fz L xs) d q (pc, lv, .int i :: .ref 60 :: st, hp, c, z) r := by
  have h5 : sHp q.1 (q.2.2.2.2.2.2 == 1) .iaload (.int i :: .ref 60 :: st) hp = none := by
    show zaI (fun t => t == 0) (.int i :: .ref 60 :: st) hp = none
    simp only [zaI, hget_ext (show 60 < zE by decide)]
  have hx : zX fz L xs d q.1 .iaload (.int i :: .ref 60 :: st) = some (1, .int (zmost.getD (nx i) 0) :: st) := by
    show zxi L xs (.int i :: .ref 60 :: st) = _
    simp only [zxi, hi, if_true]
    rfl
  exact zGo_X hd rfl rfl rfl rfl h5 rfl rfl rfl hx h
end ZC4
def zbo (v : Int32) : Bool := decide (v = 0) || decide (v = 1)
/-! rows of names; a task or none -/
def zrk (a : Nat) : Bool := decide (a ∈ [1062, 1063, 1064, 1065, 1066, 1067, 1068, 1069, 1070, 1098, 1099, 1100, 1101, 1102, 1103, 1104, 1105, 1106])
theorem crw {a : Nat} (h : zrk a = true) : zcs a = true ∧ zsh a = (2, 3, 8) := by
  have h1 := of_decide_eq_true h
  simp only [List.mem_cons, List.not_mem_nil, or_false] at h1
  rcases h1 with rfl | rfl | rfl | rfl | rfl | rfl | rfl | rfl | rfl | rfl | rfl | rfl | rfl | rfl | rfl | rfl | rfl | rfl <;> exact ⟨rfl, rfl⟩
def zrw {γ : Type} (o : Option Nat) (k : Nat → Option γ) : Option γ := match o with
  | some a => if zrk a = true then k a else none
  | none => none
theorem orww {γ : Type} {o : Option Nat} {k : Nat → Option γ} {r : γ} (h : zrw o k = some r) : ∃ a, o = some a ∧ zrk a = true ∧ k a = some r := by
  cases o with
  | none => cases h
  | some a => obtain ⟨h1, h2⟩ := ochk h; exact ⟨a, rfl, h1, h2⟩
def znl (a : Nat) : Value := if a = 0 then .null else .ref a
theorem ck0 {a : Nat} (h : zck 0 a = true) : a = 1089 ∨ a = 1125 := by
  have h1 := of_decide_eq_true h
  simpa only [zCL, List.mem_cons, List.not_mem_nil, or_false] using h1
theorem ck0_s {a : Nat} (h : zck 0 a = true) : zcs a = true ∧ zsh a = (0, 0, 7) := by
  rcases ck0 h with rfl | rfl <;> exact ⟨rfl, rfl⟩
theorem cf0_0 {a : Nat} (h : zck 0 a = true) : zR0 a 0 = a + 1 ∧ zcs (a + 1) = true ∧ zsh (a + 1) = (1, 0, 700) := by
  rcases ck0 h with rfl | rfl <;> exact ⟨rfl, rfl, rfl⟩
theorem cf0_1 {a : Nat} (h : zck 0 a = true) : zR0 a 1 = a + 2 ∧ zcs (a + 2) = true ∧ zsh (a + 2) = (1, 0, 700) := by
  rcases ck0 h with rfl | rfl <;> exact ⟨rfl, rfl, rfl⟩
theorem cf0_2 {a : Nat} (h : zck 0 a = true) : zR0 a 2 = a + 3 ∧ zcs (a + 3) = true ∧ zsh (a + 3) = (1, 0, 700) := by
  rcases ck0 h with rfl | rfl <;> exact ⟨rfl, rfl, rfl⟩
theorem cf0_3 {a : Nat} (h : zck 0 a = true) : zR0 a 3 = a + 4 ∧ zcs (a + 4) = true ∧ zsh (a + 4) = (1, 0, 700) := by
  rcases ck0 h with rfl | rfl <;> exact ⟨rfl, rfl, rfl⟩
theorem cf0_4 {a : Nat} (h : zck 0 a = true) : zR0 a 4 = a + 5 ∧ zcs (a + 5) = true ∧ zsh (a + 5) = (1, 0, 700) := by
  rcases ck0 h with rfl | rfl <;> exact ⟨rfl, rfl, rfl⟩
theorem cf0_5 {a : Nat} (h : zck 0 a = true) : zR0 a 5 = a + 6 ∧ zcs (a + 6) = true ∧ zsh (a + 6) = (1, 0, 700) := by
  rcases ck0 h with rfl | rfl <;> exact ⟨rfl, rfl, rfl⟩
theorem ck6 {a : Nat} (h : zck 6 a = true) : a = 1079 ∨ a = 1115 := by
  have h1 := of_decide_eq_true h
  simpa only [zCL, List.mem_cons, List.not_mem_nil, or_false] using h1
theorem ck6_s {a : Nat} (h : zck 6 a = true) : zcs a = true ∧ zsh a = (0, 6, 12) := by
  rcases ck6 h with rfl | rfl <;> exact ⟨rfl, rfl⟩
theorem cf6_0 {a : Nat} (h : zck 6 a = true) : zR0 a 0 = a + 1 ∧ zcs (a + 1) = true ∧ zsh (a + 1) = (1, 0, 200) := by
  rcases ck6 h with rfl | rfl <;> exact ⟨rfl, rfl, rfl⟩
theorem cf6_1 {a : Nat} (h : zck 6 a = true) : zR0 a 1 = a + 2 ∧ zcs (a + 2) = true ∧ zsh (a + 2) = (1, 0, 200) := by
  rcases ck6 h with rfl | rfl <;> exact ⟨rfl, rfl, rfl⟩
theorem cf6_2 {a : Nat} (h : zck 6 a = true) : zR0 a 2 = a + 3 ∧ zcs (a + 3) = true ∧ zsh (a + 3) = (1, 0, 200) := by
  rcases ck6 h with rfl | rfl <;> exact ⟨rfl, rfl, rfl⟩
theorem cf6_3 {a : Nat} (h : zck 6 a = true) : zR0 a 3 = a + 4 ∧ zcs (a + 4) = true ∧ zsh (a + 4) = (1, 0, 200) := by
  rcases ck6 h with rfl | rfl <;> exact ⟨rfl, rfl, rfl⟩
theorem cf6_4 {a : Nat} (h : zck 6 a = true) : zR0 a 4 = a + 5 ∧ zcs (a + 5) = true ∧ zsh (a + 5) = (1, 0, 200) := by
  rcases ck6 h with rfl | rfl <;> exact ⟨rfl, rfl, rfl⟩
theorem cf6_5 {a : Nat} (h : zck 6 a = true) : zR0 a 5 = a + 6 ∧ zcs (a + 6) = true ∧ zsh (a + 6) = (1, 0, 200) := by
  rcases ck6 h with rfl | rfl <;> exact ⟨rfl, rfl, rfl⟩
theorem cf6_6 {a : Nat} (h : zck 6 a = true) : zR0 a 6 = a + 7 ∧ zcs (a + 7) = true ∧ zsh (a + 7) = (1, 0, 200) := by
  rcases ck6 h with rfl | rfl <;> exact ⟨rfl, rfl, rfl⟩
theorem cf6_7 {a : Nat} (h : zck 6 a = true) : zR0 a 7 = a + 8 ∧ zcs (a + 8) = true ∧ zsh (a + 8) = (1, 0, 400) := by
  rcases ck6 h with rfl | rfl <;> exact ⟨rfl, rfl, rfl⟩
theorem cf6_8 {a : Nat} (h : zck 6 a = true) : zR0 a 8 = a + 9 ∧ zcs (a + 9) = true ∧ zsh (a + 9) = (1, 0, 400) := by
  rcases ck6 h with rfl | rfl <;> exact ⟨rfl, rfl, rfl⟩
theorem ck8 {a : Nat} (h : zck 8 a = true) : a = 1036 ∨ a = 1039 ∨ a = 1042 ∨ a = 1045 ∨ a = 1048 ∨ a = 1051 ∨ a = 1054 ∨ a = 1057 := by
  have h1 := of_decide_eq_true h
  simpa only [zCL, List.mem_cons, List.not_mem_nil, or_false] using h1
theorem ck8_s {a : Nat} (h : zck 8 a = true) : zcs a = true ∧ zsh a = (0, 8, 13) := by
  rcases ck8 h with rfl | rfl | rfl | rfl | rfl | rfl | rfl | rfl <;> exact ⟨rfl, rfl⟩
theorem cf8_1 {a : Nat} (h : zck 8 a = true) : zR0 a 1 = a + 1 ∧ zcs (a + 1) = true ∧ zsh (a + 1) = (1, 0, 9) := by
  rcases ck8 h with rfl | rfl | rfl | rfl | rfl | rfl | rfl | rfl <;> exact ⟨rfl, rfl, rfl⟩
theorem cf8_2 {a : Nat} (h : zck 8 a = true) : zR0 a 2 = a + 2 ∧ zcs (a + 2) = true ∧ zsh (a + 2) = (1, 0, 27) := by
  rcases ck8 h with rfl | rfl | rfl | rfl | rfl | rfl | rfl | rfl <;> exact ⟨rfl, rfl, rfl⟩
theorem ck9 {a : Nat} (h : zck 9 a = true) : a = 1060 ∨ a = 1096 := by
  have h1 := of_decide_eq_true h
  simpa only [zCL, List.mem_cons, List.not_mem_nil, or_false] using h1
theorem ck9_s {a : Nat} (h : zck 9 a = true) : zcs a = true ∧ zsh a = (0, 9, 11) := by
  rcases ck9 h with rfl | rfl <;> exact ⟨rfl, rfl⟩
theorem cf9_0 {a : Nat} (h : zck 9 a = true) : zR0 a 0 = a + 1 ∧ zcs (a + 1) = true ∧ zsh (a + 1) = (3, 5, 9) := by
  rcases ck9 h with rfl | rfl <;> exact ⟨rfl, rfl, rfl⟩
theorem cf9_1 {a : Nat} (h : zck 9 a = true) : zR0 a 1 = a + 11 ∧ zcs (a + 11) = true ∧ zsh (a + 11) = (1, 0, 9) := by
  rcases ck9 h with rfl | rfl <;> exact ⟨rfl, rfl, rfl⟩
theorem cf9_2 {a : Nat} (h : zck 9 a = true) : zR0 a 2 = a + 12 ∧ zcs (a + 12) = true ∧ zsh (a + 12) = (1, 0, 8) := by
  rcases ck9 h with rfl | rfl <;> exact ⟨rfl, rfl, rfl⟩
theorem cf9_3 {a : Nat} (h : zck 9 a = true) : zR0 a 3 = a + 13 ∧ zcs (a + 13) = true ∧ zsh (a + 13) = (1, 0, 4) := by
  rcases ck9 h with rfl | rfl <;> exact ⟨rfl, rfl, rfl⟩
theorem cf9_4 {a : Nat} (h : zck 9 a = true) : zR0 a 4 = a + 14 ∧ zcs (a + 14) = true ∧ zsh (a + 14) = (1, 0, 8) := by
  rcases ck9 h with rfl | rfl <;> exact ⟨rfl, rfl, rfl⟩
theorem cf9_5 {a : Nat} (h : zck 9 a = true) : zR0 a 5 = a + 15 ∧ zcs (a + 15) = true ∧ zsh (a + 15) = (1, 2, 8) := by
  rcases ck9 h with rfl | rfl <;> exact ⟨rfl, rfl, rfl⟩
theorem cf9_6 {a : Nat} (h : zck 9 a = true) : zR0 a 6 = a + 16 ∧ zcs (a + 16) = true ∧ zsh (a + 16) = (1, 0, 8) := by
  rcases ck9 h with rfl | rfl <;> exact ⟨rfl, rfl, rfl⟩
theorem cf9_7 {a : Nat} (h : zck 9 a = true) : zR0 a 7 = a + 17 ∧ zcs (a + 17) = true ∧ zsh (a + 17) = (1, 0, 6) := by
  rcases ck9 h with rfl | rfl <;> exact ⟨rfl, rfl, rfl⟩
theorem cf9_8 {a : Nat} (h : zck 9 a = true) : zR0 a 8 = a + 18 ∧ zcs (a + 18) = true ∧ zsh (a + 18) = (1, 0, 6) := by
  rcases ck9 h with rfl | rfl <;> exact ⟨rfl, rfl, rfl⟩
theorem cf9_9 {a : Nat} (h : zck 9 a = true) : zR0 a 9 = a + 19 ∧ zck 6 (a + 19) = true := by
  rcases ck9 h with rfl | rfl <;> exact ⟨rfl, rfl⟩
theorem cf9_10 {a : Nat} (h : zck 9 a = true) : zR0 a 10 = a + 29 ∧ zck 0 (a + 29) = true := by
  rcases ck9 h with rfl | rfl <;> exact ⟨rfl, rfl⟩
theorem ck12 {a : Nat} (h : zck 12 a = true) : a = 1134 ∨ a = 1170 := by
  have h1 := of_decide_eq_true h
  simpa only [zCL, List.mem_cons, List.not_mem_nil, or_false] using h1
theorem ck12_s {a : Nat} (h : zck 12 a = true) : zms a = true ∧ zsh a = (0, 12, 42) := by
  rcases ck12 h with rfl | rfl <;> exact ⟨rfl, rfl⟩
theorem cf12_1 {a : Nat} (h : zck 12 a = true) : zR0 a 1 = a + 1 ∧ zms (a + 1) = true ∧ zsh (a + 1) = (2, 3, 60) := by
  rcases ck12 h with rfl | rfl <;> exact ⟨rfl, rfl, rfl⟩
theorem cf12_2 {a : Nat} (h : zck 12 a = true) : zR0 a 2 = a + 2 ∧ zms (a + 2) = true ∧ zsh (a + 2) = (1, 0, 60) := by
  rcases ck12 h with rfl | rfl <;> exact ⟨rfl, rfl, rfl⟩
theorem cf12_3 {a : Nat} (h : zck 12 a = true) : zR0 a 3 = a + 3 ∧ zms (a + 3) = true ∧ zsh (a + 3) = (1, 0, 60) := by
  rcases ck12 h with rfl | rfl <;> exact ⟨rfl, rfl, rfl⟩
theorem cf12_4 {a : Nat} (h : zck 12 a = true) : zR0 a 4 = a + 4 ∧ zms (a + 4) = true ∧ zsh (a + 4) = (1, 0, 9) := by
  rcases ck12 h with rfl | rfl <;> exact ⟨rfl, rfl, rfl⟩
theorem cf12_5 {a : Nat} (h : zck 12 a = true) : zR0 a 5 = a + 5 ∧ zms (a + 5) = true ∧ zsh (a + 5) = (1, 0, 8) := by
  rcases ck12 h with rfl | rfl <;> exact ⟨rfl, rfl, rfl⟩
theorem cf12_6 {a : Nat} (h : zck 12 a = true) : zR0 a 6 = a + 6 ∧ zms (a + 6) = true ∧ zsh (a + 6) = (1, 0, 4) := by
  rcases ck12 h with rfl | rfl <;> exact ⟨rfl, rfl, rfl⟩
theorem cf12_7 {a : Nat} (h : zck 12 a = true) : zR0 a 7 = a + 7 ∧ zms (a + 7) = true ∧ zsh (a + 7) = (1, 0, 8) := by
  rcases ck12 h with rfl | rfl <;> exact ⟨rfl, rfl, rfl⟩
theorem cf12_8 {a : Nat} (h : zck 12 a = true) : zR0 a 8 = a + 8 ∧ zms (a + 8) = true ∧ zsh (a + 8) = (1, 0, 8) := by
  rcases ck12 h with rfl | rfl <;> exact ⟨rfl, rfl, rfl⟩
theorem cf12_9 {a : Nat} (h : zck 12 a = true) : zR0 a 9 = a + 9 ∧ zms (a + 9) = true ∧ zsh (a + 9) = (1, 2, 8) := by
  rcases ck12 h with rfl | rfl <;> exact ⟨rfl, rfl, rfl⟩
theorem cf12_10 {a : Nat} (h : zck 12 a = true) : zR0 a 10 = a + 10 ∧ zms (a + 10) = true ∧ zsh (a + 10) = (1, 0, 6) := by
  rcases ck12 h with rfl | rfl <;> exact ⟨rfl, rfl, rfl⟩
theorem cf12_11 {a : Nat} (h : zck 12 a = true) : zR0 a 11 = a + 11 ∧ zms (a + 11) = true ∧ zsh (a + 11) = (1, 0, 6) := by
  rcases ck12 h with rfl | rfl <;> exact ⟨rfl, rfl, rfl⟩
theorem cf12_12 {a : Nat} (h : zck 12 a = true) : zR0 a 12 = a + 12 ∧ zms (a + 12) = true ∧ zsh (a + 12) = (2, 3, 18) := by
  rcases ck12 h with rfl | rfl <;> exact ⟨rfl, rfl, rfl⟩
theorem cf12_14 {a : Nat} (h : zck 12 a = true) : zR0 a 14 = a + 13 ∧ zms (a + 13) = true ∧ zsh (a + 13) = (1, 0, 2000) := by
  rcases ck12 h with rfl | rfl <;> exact ⟨rfl, rfl, rfl⟩
theorem cf12_15 {a : Nat} (h : zck 12 a = true) : zR0 a 15 = a + 14 ∧ zms (a + 14) = true ∧ zsh (a + 14) = (1, 0, 40000) := by
  rcases ck12 h with rfl | rfl <;> exact ⟨rfl, rfl, rfl⟩
theorem cf12_17 {a : Nat} (h : zck 12 a = true) : zR0 a 17 = a + 15 ∧ zms (a + 15) = true ∧ zsh (a + 15) = (1, 0, 200) := by
  rcases ck12 h with rfl | rfl <;> exact ⟨rfl, rfl, rfl⟩
theorem cf12_18 {a : Nat} (h : zck 12 a = true) : zR0 a 18 = a + 16 ∧ zms (a + 16) = true ∧ zsh (a + 16) = (1, 0, 200) := by
  rcases ck12 h with rfl | rfl <;> exact ⟨rfl, rfl, rfl⟩
theorem cf12_19 {a : Nat} (h : zck 12 a = true) : zR0 a 19 = a + 17 ∧ zms (a + 17) = true ∧ zsh (a + 17) = (1, 0, 200) := by
  rcases ck12 h with rfl | rfl <;> exact ⟨rfl, rfl, rfl⟩
theorem cf12_20 {a : Nat} (h : zck 12 a = true) : zR0 a 20 = a + 18 ∧ zms (a + 18) = true ∧ zsh (a + 18) = (1, 0, 200) := by
  rcases ck12 h with rfl | rfl <;> exact ⟨rfl, rfl, rfl⟩
theorem cf12_21 {a : Nat} (h : zck 12 a = true) : zR0 a 21 = a + 19 ∧ zms (a + 19) = true ∧ zsh (a + 19) = (1, 0, 200) := by
  rcases ck12 h with rfl | rfl <;> exact ⟨rfl, rfl, rfl⟩
theorem cf12_22 {a : Nat} (h : zck 12 a = true) : zR0 a 22 = a + 20 ∧ zms (a + 20) = true ∧ zsh (a + 20) = (1, 0, 200) := by
  rcases ck12 h with rfl | rfl <;> exact ⟨rfl, rfl, rfl⟩
theorem cf12_23 {a : Nat} (h : zck 12 a = true) : zR0 a 23 = a + 21 ∧ zms (a + 21) = true ∧ zsh (a + 21) = (1, 0, 800) := by
  rcases ck12 h with rfl | rfl <;> exact ⟨rfl, rfl, rfl⟩
theorem cf12_24 {a : Nat} (h : zck 12 a = true) : zR0 a 24 = a + 22 ∧ zms (a + 22) = true ∧ zsh (a + 22) = (1, 0, 800) := by
  rcases ck12 h with rfl | rfl <;> exact ⟨rfl, rfl, rfl⟩
theorem cf12_25 {a : Nat} (h : zck 12 a = true) : zR0 a 25 = a + 23 ∧ zms (a + 23) = true ∧ zsh (a + 23) = (1, 0, 200) := by
  rcases ck12 h with rfl | rfl <;> exact ⟨rfl, rfl, rfl⟩
theorem cf12_26 {a : Nat} (h : zck 12 a = true) : zR0 a 26 = a + 24 ∧ zms (a + 24) = true ∧ zsh (a + 24) = (1, 0, 200) := by
  rcases ck12 h with rfl | rfl <;> exact ⟨rfl, rfl, rfl⟩
theorem cf12_29 {a : Nat} (h : zck 12 a = true) : zR0 a 29 = a + 25 ∧ zms (a + 25) = true ∧ zsh (a + 25) = (1, 0, 401) := by
  rcases ck12 h with rfl | rfl <;> exact ⟨rfl, rfl, rfl⟩
theorem cf12_30 {a : Nat} (h : zck 12 a = true) : zR0 a 30 = a + 26 ∧ zms (a + 26) = true ∧ zsh (a + 26) = (1, 0, 401) := by
  rcases ck12 h with rfl | rfl <;> exact ⟨rfl, rfl, rfl⟩
theorem cf12_32 {a : Nat} (h : zck 12 a = true) : zR0 a 32 = a + 27 ∧ zms (a + 27) = true ∧ zsh (a + 27) = (1, 0, 900) := by
  rcases ck12 h with rfl | rfl <;> exact ⟨rfl, rfl, rfl⟩
theorem cf12_33 {a : Nat} (h : zck 12 a = true) : zR0 a 33 = a + 28 ∧ zms (a + 28) = true ∧ zsh (a + 28) = (1, 0, 900) := by
  rcases ck12 h with rfl | rfl <;> exact ⟨rfl, rfl, rfl⟩
theorem cf12_35 {a : Nat} (h : zck 12 a = true) : zR0 a 35 = a + 29 ∧ zms (a + 29) = true ∧ zsh (a + 29) = (2, 3, 1400) := by
  rcases ck12 h with rfl | rfl <;> exact ⟨rfl, rfl, rfl⟩
theorem cf12_36 {a : Nat} (h : zck 12 a = true) : zR0 a 36 = a + 30 ∧ zms (a + 30) = true ∧ zsh (a + 30) = (1, 0, 1400) := by
  rcases ck12 h with rfl | rfl <;> exact ⟨rfl, rfl, rfl⟩
theorem cf12_37 {a : Nat} (h : zck 12 a = true) : zR0 a 37 = a + 31 ∧ zms (a + 31) = true ∧ zsh (a + 31) = (1, 0, 1400) := by
  rcases ck12 h with rfl | rfl <;> exact ⟨rfl, rfl, rfl⟩
theorem cf12_38 {a : Nat} (h : zck 12 a = true) : zR0 a 38 = a + 32 ∧ zms (a + 32) = true ∧ zsh (a + 32) = (1, 0, 1400) := by
  rcases ck12 h with rfl | rfl <;> exact ⟨rfl, rfl, rfl⟩
theorem cf12_39 {a : Nat} (h : zck 12 a = true) : zR0 a 39 = a + 33 ∧ zms (a + 33) = true ∧ zsh (a + 33) = (1, 0, 1400) := by
  rcases ck12 h with rfl | rfl <;> exact ⟨rfl, rfl, rfl⟩
theorem cf12_40 {a : Nat} (h : zck 12 a = true) : zR0 a 40 = a + 34 ∧ zms (a + 34) = true ∧ zsh (a + 34) = (1, 0, 1400) := by
  rcases ck12 h with rfl | rfl <;> exact ⟨rfl, rfl, rfl⟩
theorem cf12_41 {a : Nat} (h : zck 12 a = true) : zR0 a 41 = a + 35 ∧ zms (a + 35) = true ∧ zsh (a + 35) = (1, 0, 1400) := by
  rcases ck12 h with rfl | rfl <;> exact ⟨rfl, rfl, rfl⟩
theorem znl_ck {a : Nat} (h : zck 8 a = true) : znl a = .ref a := by
  rcases ck8 h with rfl | rfl | rfl | rfl | rfl | rfl | rfl | rfl <;> rfl
theorem ck8_e {a : Nat} (h : zck 8 a = true) : zE ≤ a := by
  unfold zE
  rcases ck8 h with rfl | rfl | rfl | rfl | rfl | rfl | rfl | rfl <;> decide
section ZA4
variable {X : zXT} {d : Nat} {q : zMI} {pc c z x y : Nat} {lv : List (Nat × Value)} {st : List Value} {hp : List PE} {r : zR} {off : Int}
theorem zGo_acF {t : Nat} (hd : decode q.2.2.1 pc = .ok (.if_acmp .ne off, 3)) (hx : zE ≤ x) (hy : zE ≤ y) (hc : x = y) (h : zGo X d q (pc + 3, lv, st, hp, c, z) r) (ht : zjmp pc off = some t := by rfl) : zGo X d q (pc, lv, .ref y :: .ref x :: st, hp, c, z) r := by
  refine zGo_step hd (x' := (pc + 3, lv, st, hp, c, z)) ?_ h
  have e : zacnd .ne x y = false := by simp [zacnd, hc]
  simp only [zstep, sStk, sLd, sSv, sBr, if_pos (And.intro hx hy), zif, ht, e, if_true]
  rfl
theorem zGo_acT {t : Nat} (hd : decode q.2.2.1 pc = .ok (.if_acmp .ne off, 3)) (ht : zjmp pc off = some t) (hx : zE ≤ x) (hy : zE ≤ y) (hc : ¬ x = y) (h : zGo X d q (t, lv, st, hp, c, z) r) : zGo X d q (pc, lv, .ref y :: .ref x :: st, hp, c, z) r := by
  refine zGo_step hd (x' := (t, lv, st, hp, c, z)) ?_ h
  have e : zacnd .ne x y = true := by simp [zacnd, hc]
  simp only [zstep, sStk, sLd, sSv, sBr, if_pos (And.intro hx hy), zif, ht, e, if_true]
end ZA4
