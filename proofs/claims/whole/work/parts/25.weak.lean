/-! locals that a run doesn't ask for may stand there; the outside without the script's ints -/
theorem lget_app {lv ext : List (Nat × Value)} {i : Nat} {v : Value} (h : lget lv i = some v) : lget (lv ++ ext) i = some v := by
  unfold lget at h ⊢
  rw [List.find?_append]
  cases hf : lv.find? (fun q => q.1 == i) with
  | none => rw [hf] at h; cases h
  | some q => rw [hf] at h; exact h
theorem lput1_app (lv ext : List (Nat × Value)) (i : Nat) (v : Value) : ∃ e2, lput1 (lv ++ ext) i v = lput1 lv i v ++ e2 := ⟨_, by unfold lput1; rw [List.filter_append, List.cons_append]⟩
theorem lput2_app (lv ext : List (Nat × Value)) (i : Nat) (v : Value) : ∃ e2, lput2 (lv ++ ext) i v = lput2 lv i v ++ e2 := ⟨_, by unfold lput2; rw [List.filter_append, List.cons_append]⟩
theorem sLd_app {ins : Instr} {lv ext : List (Nat × Value)} {st : List Value} {v : Nat × List Value} (h : sLd ins lv st = some v) : sLd ins (lv ++ ext) st = some v := by
  obtain ⟨n, st'⟩ := v
  cases ins with
  | iload_n i => obtain ⟨x, h1, rfl, rfl⟩ := zldI_s h; simp only [sLd, zldI, lget_app h1]
  | iload i => obtain ⟨x, h1, rfl, rfl⟩ := zldI_s h; simp only [sLd, zldI, lget_app h1]
  | lload_n i => obtain ⟨x, h1, rfl, rfl⟩ := zldJ_s h; simp only [sLd, zldJ, lget_app h1]
  | lload i => obtain ⟨x, h1, rfl, rfl⟩ := zldJ_s h; simp only [sLd, zldJ, lget_app h1]
  | aload_n i => rcases zldA_s h with ⟨x, h1, rfl, rfl⟩ | ⟨h1, rfl, rfl⟩ <;> simp only [sLd, zldA, lget_app h1]
  | aload i => rcases zldA_s h with ⟨x, h1, rfl, rfl⟩ | ⟨h1, rfl, rfl⟩ <;> simp only [sLd, zldA, lget_app h1]
  | _ => have h2 : (none : Option (Nat × List Value)) = some (n, st') := h; cases h2
theorem sSv_app {ins : Instr} {nL n : Nat} {lv lv' ext : List (Nat × Value)} {st st' : List Value} (h : sSv ins nL lv st = some (n, lv', st')) : ∃ e2, sSv ins nL (lv ++ ext) st = some (n, lv' ++ e2, st') := by
  cases ins with
  | istore_n i => obtain ⟨x, rfl, rfl, h1, rfl⟩ := zstI_s h; obtain ⟨e2, h2⟩ := lput1_app lv ext i (.int x); exact ⟨e2, by simp only [sSv, zstI, h2, if_pos h1]⟩
  | istore i => obtain ⟨x, rfl, rfl, h1, rfl⟩ := zstI_s h; obtain ⟨e2, h2⟩ := lput1_app lv ext i (.int x); exact ⟨e2, by simp only [sSv, zstI, h2, if_pos h1]⟩
  | lstore_n i => obtain ⟨x, rfl, rfl, h1, rfl⟩ := zstJ_s h; obtain ⟨e2, h2⟩ := lput2_app lv ext i (.long x); exact ⟨e2, by simp only [sSv, zstJ, h2, if_pos h1]⟩
  | lstore i => obtain ⟨x, rfl, rfl, h1, rfl⟩ := zstJ_s h; obtain ⟨e2, h2⟩ := lput2_app lv ext i (.long x); exact ⟨e2, by simp only [sSv, zstJ, h2, if_pos h1]⟩
  | astore_n i =>
    rcases zstA_s h with ⟨x, rfl, rfl, h1, rfl⟩ | ⟨rfl, rfl, h1, rfl⟩
    · obtain ⟨e2, h2⟩ := lput1_app lv ext i (.ref x); exact ⟨e2, by simp only [sSv, zstA, h2, if_pos h1]⟩
    · obtain ⟨e2, h2⟩ := lput1_app lv ext i .null; exact ⟨e2, by simp only [sSv, zstA, h2, if_pos h1]⟩
  | astore i =>
    rcases zstA_s h with ⟨x, rfl, rfl, h1, rfl⟩ | ⟨rfl, rfl, h1, rfl⟩
    · obtain ⟨e2, h2⟩ := lput1_app lv ext i (.ref x); exact ⟨e2, by simp only [sSv, zstA, h2, if_pos h1]⟩
    · obtain ⟨e2, h2⟩ := lput1_app lv ext i .null; exact ⟨e2, by simp only [sSv, zstA, h2, if_pos h1]⟩
  | iinc i j => obtain ⟨x, h0, rfl, h1, rfl, rfl⟩ := zinc_s h; obtain ⟨e2, h2⟩ := lput1_app lv ext i (.int (x + Int32.ofInt j)); exact ⟨e2, by simp only [sSv, zinc, lget_app h0, h2, if_pos h1]⟩
  | _ => have h2 : (none : Option (Nat × List (Nat × Value) × List Value)) = some (n, lv', st') := h; cases h2
/-- the instructions that read or write locals -/
def zlvI (ins : Instr) : Bool := match ins with
  | .iload_n _ | .iload _ | .lload_n _ | .lload _ | .aload_n _ | .aload _ | .istore_n _ | .istore _ | .lstore_n _ | .lstore _ | .astore_n _ | .astore _ | .iinc _ _ => true
  | _ => false
theorem zlv_no {ins : Instr} (h : zlvI ins = false) : (∀ lv st, sLd ins lv st = none) ∧ (∀ nL lv st, sSv ins nL lv st = none) := by
  cases ins <;> first | (exact ⟨fun _ _ => rfl, fun _ _ _ => rfl⟩) | (cases h; done)
theorem zlv_yes {ins : Instr} (h : zlvI ins = true) : (∀ st, sStk ins st = none) ∧ (∀ len pc st, sBr ins len pc st = none) ∧ (∀ cn i st hp, sHp cn i ins st hp = none) ∧ (∀ cn st, sCo cn ins st = none) ∧ (∀ cn st hp, sNw cn ins st hp = none) ∧ (∀ cn st hp, sOb cn ins st hp = none) ∧ (∀ r st, zret r ins st = none) ∧ (∀ cn st hp, zcal cn ins st hp = none) := by
  cases ins <;> first | (exact ⟨fun _ => rfl, fun _ _ _ => rfl, fun _ _ _ _ => rfl, fun _ _ => rfl, fun _ _ _ => rfl, fun _ _ _ => rfl, fun _ _ => rfl, fun _ _ _ => rfl⟩) | (cases h; done)
theorem zstep_app {X : zXT} (hX : ∀ (d cn : Nat) (ins : Instr) (st : List Value), zlvI ins = true → X d cn ins st = none) {d : Nat} {q : zMI} {ins : Instr} {len pc c z pc' c' z' : Nat} {lv lv' ext : List (Nat × Value)} {st st' : List Value} {hp hp' : List PE} (h : zstep X d q ins len (pc, lv, st, hp, c, z) = some (pc', lv', st', hp', c', z')) : ∃ e2, zstep X d q ins len (pc, lv ++ ext, st, hp, c, z) = some (pc', lv' ++ e2, st', hp', c', z') := by
  cases hl : zlvI ins with
  | false =>
    obtain ⟨n1, n2⟩ := zlv_no hl
    simp only [zstep, n1, n2] at h ⊢
    refine ⟨ext, ?_⟩
    split at h
    · obtain ⟨h1, e9⟩ := zk_s h; cases e9; subst h1; exact if_pos rfl
    · split at h
      · cases h; rfl
      · split at h
        · obtain ⟨h1, e9⟩ := zk_s h; cases e9; subst h1; exact if_pos rfl
        · split at h
          · obtain ⟨h1, e9⟩ := zk_s h; cases e9; subst h1; exact if_pos rfl
          · split at h
            · obtain ⟨h1, e9⟩ := zk_s h; cases e9; subst h1; exact if_pos rfl
            · split at h
              · split at h
                · next hd1 => obtain ⟨h1, e9⟩ := zk_s h; cases e9; subst h1; rw [if_pos hd1]; exact if_pos rfl
                · cases h
              · split at h
                · obtain ⟨h1, e9⟩ := zk_s h; cases e9; subst h1; exact if_pos rfl
                · cases h
  | true =>
    obtain ⟨n1, n2, n3, n4, n5, n6, -, -⟩ := zlv_yes hl
    simp only [zstep, n1, n2, n3, n4, n5, n6, hX _ _ _ _ hl] at h ⊢
    split at h
    · next n st1 hh =>
      obtain ⟨h1, e9⟩ := zk_s h
      cases e9
      subst h1
      rw [sLd_app hh]
      exact ⟨ext, if_pos rfl⟩
    · next hh =>
      split at h
      · next n lv1 st1 hs =>
        obtain ⟨h1, e9⟩ := zk_s h
        cases e9
        subst h1
        obtain ⟨e2, h2⟩ := sSv_app (ext := ext) hs
        have h3 : sLd ins (lv ++ ext) st = none := by
          cases ins <;> first | rfl | (have h4 : (none : Option (Nat × List (Nat × Value) × List Value)) = some _ := hs; cases h4; done)
        rw [h3, h2]
        exact ⟨e2, if_pos rfl⟩
      · cases h
theorem zstep_appN {X : zXT} {d : Nat} {q : zMI} {ins : Instr} {len pc c z : Nat} {lv ext : List (Nat × Value)} {st : List Value} {hp : List PE} (hl : zlvI ins = false) (h : zstep X d q ins len (pc, lv, st, hp, c, z) = none) : zstep X d q ins len (pc, lv ++ ext, st, hp, c, z) = none := by
  obtain ⟨n1, n2⟩ := zlv_no hl
  simp only [zstep, n1, n2] at h ⊢
  split at h
  · unfold zk at h ⊢; split at h <;> first | (cases h; done) | (rw [if_neg (by assumption)])
  · split at h
    · cases h
    · split at h
      · unfold zk at h ⊢; split at h <;> first | (cases h; done) | (rw [if_neg (by assumption)])
      · split at h
        · unfold zk at h ⊢; split at h <;> first | (cases h; done) | (rw [if_neg (by assumption)])
        · split at h
          · unfold zk at h ⊢; split at h <;> first | (cases h; done) | (rw [if_neg (by assumption)])
          · split at h
            · split at h
              · next hd1 => rw [if_pos hd1]; unfold zk at h ⊢; split at h <;> first | (cases h; done) | (rw [if_neg (by assumption)])
              · next hd1 => rw [if_neg hd1]
            · split at h
              · unfold zk at h ⊢; split at h <;> first | (cases h; done) | (rw [if_neg (by assumption)])
              · rfl
theorem zlv_of_ret {ret : Option FieldType} {ins : Instr} {st : List Value} {rv : Option Value} (h : zret ret ins st = some rv) : zlvI ins = false := by
  cases hl : zlvI ins with
  | false => rfl
  | true => rw [(zlv_yes hl).2.2.2.2.2.2.1] at h; cases h
theorem zlv_of_cal {cn : Nat} {ins : Instr} {st : List Value} {hp : List PE} {v : zMI × List Value × List Value} (h : zcal cn ins st hp = some v) : zlvI ins = false := by
  cases hl : zlvI ins with
  | false => rfl
  | true => rw [(zlv_yes hl).2.2.2.2.2.2.2] at h; cases h
/-- a run goes on as it is with more locals behind those that it has -/
theorem zrun_app {X : zXT} (hX : ∀ (d cn : Nat) (ins : Instr) (st : List Value), zlvI ins = true → X d cn ins st = none) : ∀ (n d : Nat) (q : zMI) (pc : Nat) (lv ext : List (Nat × Value)) (st : List Value) (hp : List PE) (c z : Nat) (r : zR), zrun X n d q (pc, lv, st, hp, c, z) = some r → zrun X n d q (pc, lv ++ ext, st, hp, c, z) = some r := by
  intro n
  induction n with
  | zero => intro d q pc lv ext st hp c z r h; cases h
  | succ n ih =>
    intro d q pc lv ext st hp c z r h
    rw [zrun_s] at h ⊢
    unfold zbody at h ⊢
    simp only at h ⊢
    split at h
    · next ins len hd =>
      split at h
      · next x' hs =>
        obtain ⟨pc1, lv1, st1, hp1, c1, z1⟩ := x'
        obtain ⟨e2, h2⟩ := zstep_app hX (ext := ext) hs
        rw [h2]
        exact ih _ _ _ _ _ _ _ _ _ _ h
      · next hs =>
        split at h
        · next rv hr =>
          rw [zstep_appN (zlv_of_ret hr) hs]
          exact h
        · next hr =>
          split at h
          · cases h
          · split at h
            · next q' as rest hc =>
              rw [zstep_appN (zlv_of_cal hc) hs]
              split at h
              · next h3 =>
                try dsimp only
                try rw [if_pos h3]
                split at h
                · next rv hp' c' z' hr9 =>
                  exact ih _ _ _ _ _ _ _ _ _ _ h
                · cases h
              · cases h
            · cases h
    · cases h
