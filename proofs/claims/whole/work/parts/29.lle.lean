/-! locals may be more, and in another order -/
def lle (lv lv' : List (Nat × Value)) : Prop := (lv.map (fun q => q.1)).Nodup ∧ (lv'.map (fun q => q.1)).Nodup ∧ ∀ q ∈ lv, q ∈ lv'
theorem lget_of {lv : List (Nat × Value)} (hn : (lv.map (fun q => q.1)).Nodup) {i : Nat} {v : Value} (h : (i, v) ∈ lv) : lget lv i = some v := by
  unfold lget
  induction lv with
  | nil => cases h
  | cons q t ih =>
    rw [List.map_cons, List.nodup_cons] at hn
    rcases List.mem_cons.mp h with h | h
    · subst h
      simp
    · by_cases hq : q.1 = i
      · exfalso
        exact hn.1 (List.mem_map.mpr ⟨(i, v), h, hq.symm⟩)
      · rw [List.find?_cons_of_neg (by simpa using hq)]
        exact ih hn.2 h
theorem lle_get {lv lv' : List (Nat × Value)} (h : lle lv lv') {i : Nat} {v : Value} (hg : lget lv i = some v) : lget lv' i = some v := lget_of h.2.1 (h.2.2 _ (lget_mem hg))
theorem lput1_nd {lv : List (Nat × Value)} (hn : (lv.map (fun q => q.1)).Nodup) (i : Nat) (v : Value) : ((lput1 lv i v).map (fun q => q.1)).Nodup := by
  unfold lput1
  rw [List.map_cons, List.nodup_cons]
  refine ⟨fun h => ?_, List.Nodup.sublist (List.Sublist.map _ List.filter_sublist) hn⟩
  obtain ⟨q, hq, e⟩ := List.mem_map.mp h
  have h1 := (List.mem_filter.mp hq).2
  have e1 : q.1 = i := e
  simp [e1] at h1
theorem lput2_nd {lv : List (Nat × Value)} (hn : (lv.map (fun q => q.1)).Nodup) (i : Nat) (v : Value) : ((lput2 lv i v).map (fun q => q.1)).Nodup := by
  unfold lput2
  rw [List.map_cons, List.nodup_cons]
  refine ⟨fun h => ?_, List.Nodup.sublist (List.Sublist.map _ List.filter_sublist) hn⟩
  obtain ⟨q, hq, e⟩ := List.mem_map.mp h
  have h1 := (List.mem_filter.mp hq).2
  have e1 : q.1 = i := e
  simp [e1] at h1
theorem lle_put1 {lv lv' : List (Nat × Value)} (h : lle lv lv') (i : Nat) (v : Value) : lle (lput1 lv i v) (lput1 lv' i v) := by
  refine ⟨lput1_nd h.1 i v, lput1_nd h.2.1 i v, fun q hq => ?_⟩
  unfold lput1 at hq ⊢
  rcases List.mem_cons.mp hq with hq | hq
  · exact List.mem_cons.mpr (Or.inl hq)
  · obtain ⟨h1, h2⟩ := List.mem_filter.mp hq
    exact List.mem_cons.mpr (Or.inr (List.mem_filter.mpr ⟨h.2.2 q h1, h2⟩))
theorem lle_put2 {lv lv' : List (Nat × Value)} (h : lle lv lv') (i : Nat) (v : Value) : lle (lput2 lv i v) (lput2 lv' i v) := by
  refine ⟨lput2_nd h.1 i v, lput2_nd h.2.1 i v, fun q hq => ?_⟩
  unfold lput2 at hq ⊢
  rcases List.mem_cons.mp hq with hq | hq
  · exact List.mem_cons.mpr (Or.inl hq)
  · obtain ⟨h1, h2⟩ := List.mem_filter.mp hq
    exact List.mem_cons.mpr (Or.inr (List.mem_filter.mpr ⟨h.2.2 q h1, h2⟩))
theorem sLd_lle {ins : Instr} {lv lv' : List (Nat × Value)} (hl : lle lv lv') {st : List Value} {v : Nat × List Value} (h : sLd ins lv st = some v) : sLd ins lv' st = some v := by
  obtain ⟨n, st'⟩ := v
  cases ins with
  | iload_n i => obtain ⟨x, h1, rfl, rfl⟩ := zldI_s h; simp only [sLd, zldI, lle_get hl h1]
  | iload i => obtain ⟨x, h1, rfl, rfl⟩ := zldI_s h; simp only [sLd, zldI, lle_get hl h1]
  | lload_n i => obtain ⟨x, h1, rfl, rfl⟩ := zldJ_s h; simp only [sLd, zldJ, lle_get hl h1]
  | lload i => obtain ⟨x, h1, rfl, rfl⟩ := zldJ_s h; simp only [sLd, zldJ, lle_get hl h1]
  | aload_n i => rcases zldA_s h with ⟨x, h1, rfl, rfl⟩ | ⟨h1, rfl, rfl⟩ <;> simp only [sLd, zldA, lle_get hl h1]
  | aload i => rcases zldA_s h with ⟨x, h1, rfl, rfl⟩ | ⟨h1, rfl, rfl⟩ <;> simp only [sLd, zldA, lle_get hl h1]
  | _ => have h2 : (none : Option (Nat × List Value)) = some (n, st') := h; cases h2
theorem sSv_lle {ins : Instr} {nL n : Nat} {lv lv1 lv' : List (Nat × Value)} (hl : lle lv lv') {st st' : List Value} (h : sSv ins nL lv st = some (n, lv1, st')) : ∃ lv2, lle lv1 lv2 ∧ sSv ins nL lv' st = some (n, lv2, st') := by
  cases ins with
  | istore_n i => obtain ⟨x, rfl, rfl, h1, rfl⟩ := zstI_s h; exact ⟨_, lle_put1 hl i (.int x), by simp only [sSv, zstI, if_pos h1]⟩
  | istore i => obtain ⟨x, rfl, rfl, h1, rfl⟩ := zstI_s h; exact ⟨_, lle_put1 hl i (.int x), by simp only [sSv, zstI, if_pos h1]⟩
  | lstore_n i => obtain ⟨x, rfl, rfl, h1, rfl⟩ := zstJ_s h; exact ⟨_, lle_put2 hl i (.long x), by simp only [sSv, zstJ, if_pos h1]⟩
  | lstore i => obtain ⟨x, rfl, rfl, h1, rfl⟩ := zstJ_s h; exact ⟨_, lle_put2 hl i (.long x), by simp only [sSv, zstJ, if_pos h1]⟩
  | astore_n i =>
    rcases zstA_s h with ⟨x, rfl, rfl, h1, rfl⟩ | ⟨rfl, rfl, h1, rfl⟩
    · exact ⟨_, lle_put1 hl i (.ref x), by simp only [sSv, zstA, if_pos h1]⟩
    · exact ⟨_, lle_put1 hl i .null, by simp only [sSv, zstA, if_pos h1]⟩
  | astore i =>
    rcases zstA_s h with ⟨x, rfl, rfl, h1, rfl⟩ | ⟨rfl, rfl, h1, rfl⟩
    · exact ⟨_, lle_put1 hl i (.ref x), by simp only [sSv, zstA, if_pos h1]⟩
    · exact ⟨_, lle_put1 hl i .null, by simp only [sSv, zstA, if_pos h1]⟩
  | iinc i j => obtain ⟨x, h0, rfl, h1, rfl, rfl⟩ := zinc_s h; exact ⟨_, lle_put1 hl i (.int (x + Int32.ofInt j)), by simp only [sSv, zinc, lle_get hl h0, if_pos h1]⟩
  | _ => have h2 : (none : Option (Nat × List (Nat × Value) × List Value)) = some (n, lv1, st') := h; cases h2
theorem zstep_lle {X : zXT} (hX : ∀ (d cn : Nat) (ins : Instr) (st : List Value), zlvI ins = true → X d cn ins st = none) {d : Nat} {q : zMI} {ins : Instr} {len pc c z pc' c' z' : Nat} {lv lv1 lv' : List (Nat × Value)} (hl9 : lle lv lv') {st st' : List Value} {hp hp' : List PE} (h : zstep X d q ins len (pc, lv, st, hp, c, z) = some (pc', lv1, st', hp', c', z')) : ∃ lv2, lle lv1 lv2 ∧ zstep X d q ins len (pc, lv', st, hp, c, z) = some (pc', lv2, st', hp', c', z') := by
  cases hl : zlvI ins with
  | false =>
    obtain ⟨n1, n2⟩ := zlv_no hl
    simp only [zstep, n1, n2] at h ⊢
    split at h
    · obtain ⟨h1, e9⟩ := zk_s h; cases e9; subst h1; exact ⟨lv', hl9, if_pos rfl⟩
    · split at h
      · cases h; exact ⟨lv', hl9, rfl⟩
      · split at h
        · obtain ⟨h1, e9⟩ := zk_s h; cases e9; subst h1; exact ⟨lv', hl9, if_pos rfl⟩
        · split at h
          · obtain ⟨h1, e9⟩ := zk_s h; cases e9; subst h1; exact ⟨lv', hl9, if_pos rfl⟩
          · split at h
            · obtain ⟨h1, e9⟩ := zk_s h; cases e9; subst h1; exact ⟨lv', hl9, if_pos rfl⟩
            · split at h
              · split at h
                · next hd1 => obtain ⟨h1, e9⟩ := zk_s h; cases e9; subst h1; exact ⟨lv', hl9, by rw [if_pos hd1]; exact if_pos rfl⟩
                · cases h
              · split at h
                · obtain ⟨h1, e9⟩ := zk_s h; cases e9; subst h1; exact ⟨lv', hl9, if_pos rfl⟩
                · cases h
  | true =>
    obtain ⟨n1, n2, n3, n4, n5, n6, -, -⟩ := zlv_yes hl
    simp only [zstep, n1, n2, n3, n4, n5, n6, hX _ _ _ _ hl] at h ⊢
    split at h
    · next n st1 hh =>
      obtain ⟨h1, e9⟩ := zk_s h
      cases e9
      subst h1
      rw [sLd_lle hl9 hh]
      exact ⟨lv', hl9, if_pos rfl⟩
    · next hh =>
      split at h
      · next n lv3 st1 hs =>
        obtain ⟨h1, e9⟩ := zk_s h
        cases e9
        subst h1
        obtain ⟨lv2, h2, h3⟩ := sSv_lle hl9 hs
        have h4 : sLd ins lv' st = none := by
          cases ins <;> first | rfl | (have h5 : (none : Option (Nat × List (Nat × Value) × List Value)) = some _ := hs; cases h5; done)
        rw [h4, h3]
        exact ⟨lv2, h2, if_pos rfl⟩
      · cases h
theorem zstep_lleN {X : zXT} {d : Nat} {q : zMI} {ins : Instr} {len pc c z : Nat} {lv lv' : List (Nat × Value)} {st : List Value} {hp : List PE} (hl : zlvI ins = false) (h : zstep X d q ins len (pc, lv, st, hp, c, z) = none) : zstep X d q ins len (pc, lv', st, hp, c, z) = none := by
  obtain ⟨n1, n2⟩ := zlv_no hl
  simp only [zstep, n1, n2] at h ⊢
  split at h
  · unfold zk at h ⊢; split at h <;> first | (cases h; done) | (rw [if_neg (by assumption)])
  · split at h
    · cases h
    · split at h
      · unfold zk at h ⊢; split at h <;> first | (cases h; done) | (rw [if_neg (by assumption)])
      · split at h
        · unfold zk at h ⊢; split at h <;> first | (cases h; done) | (rw [if_neg (by assumption)])
        · split at h
          · unfold zk at h ⊢; split at h <;> first | (cases h; done) | (rw [if_neg (by assumption)])
          · split at h
            · split at h
              · next hd1 => rw [if_pos hd1]; unfold zk at h ⊢; split at h <;> first | (cases h; done) | (rw [if_neg (by assumption)])
              · next hd1 => rw [if_neg hd1]
            · split at h
              · unfold zk at h ⊢; split at h <;> first | (cases h; done) | (rw [if_neg (by assumption)])
              · rfl
theorem zrun_lle {X : zXT} (hX : ∀ (d cn : Nat) (ins : Instr) (st : List Value), zlvI ins = true → X d cn ins st = none) : ∀ (n d : Nat) (q : zMI) (pc : Nat) (lv lv' : List (Nat × Value)) (st : List Value) (hp : List PE) (c z : Nat) (r : zR), lle lv lv' → zrun X n d q (pc, lv, st, hp, c, z) = some r → zrun X n d q (pc, lv', st, hp, c, z) = some r := by
  intro n
  induction n with
  | zero => intro d q pc lv lv' st hp c z r _ h; cases h
  | succ n ih =>
    intro d q pc lv lv' st hp c z r hl h
    rw [zrun_s] at h ⊢
    unfold zbody at h ⊢
    simp only at h ⊢
    split at h
    · next ins len hd =>
      split at h
      · next x' hs =>
        obtain ⟨pc1, lv1, st1, hp1, c1, z1⟩ := x'
        obtain ⟨lv2, h2, h3⟩ := zstep_lle hX hl hs
        rw [h3]
        exact ih _ _ _ _ _ _ _ _ _ _ h2 h
      · next hs =>
        split at h
        · next rv hr =>
          rw [zstep_lleN (zlv_of_ret hr) hs]
          exact h
        · next hr =>
          split at h
          · cases h
          · split at h
            · next q' as rest hc =>
              rw [zstep_lleN (zlv_of_cal hc) hs]
              split at h
              · next h3 =>
                try dsimp only
                try rw [if_pos h3]
                split at h
                · next rv hp' c' z' hr9 =>
                  exact ih _ _ _ _ _ _ _ _ _ _ hl h
                · cases h
              · cases h
            · cases h
    · cases h
theorem zGo_lv {fz : Bool} {L : Nat} {xs : Nat → Int32} {d : Nat} {q : zMI} {pc c z : Nat} {lv lv' : List (Nat × Value)} {st : List Value} {hp : List PE} {r : zR} (hl : lle lv lv') (h : zGo (zX fz L xs) d q (pc, lv, st, hp, c, z) r) : zGo (zX fz L xs) d q (pc, lv', st, hp, c, z) r := by
  obtain ⟨n, h⟩ := h
  exact ⟨n, zrun_lle (zX_lv fz L xs) n d q pc lv lv' st hp c z r hl h⟩
