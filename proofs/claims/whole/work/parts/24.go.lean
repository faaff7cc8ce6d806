/-! runs: more of the outside, more fuel, more depth; steps, calls and returns of a run -/
/-- Y's outside is X's, as far as it goes; and X has nothing for calls and returns -/
def zXle (Y X : zXT) : Prop := (∀ (d cn : Nat) (ins : Instr) (st : List Value) (v : Nat × List Value), Y d cn ins st = some v → X d cn ins st = some v) ∧ (∀ (d cn : Nat) (ins : Instr) (st : List Value), X d cn ins st ≠ none → (∀ (ret : Option FieldType) (s9 : List Value), zret ret ins s9 = none) ∧ (∀ (c9 : Nat) (s9 : List Value) (h9 : List PE), zcal c9 ins s9 h9 = none)) ∧ (∀ (d d' cn : Nat) (ins : Instr) (st : List Value), X d cn ins st = X d' cn ins st)
theorem zstep_ext {Y X : zXT} (hY : zXle Y X) {d : Nat} {q : zMI} {ins : Instr} {len : Nat} {x x' : zS} (h : zstep Y d q ins len x = some x') : zstep X d q ins len x = some x' := by
  obtain ⟨pc, lv, st, hp, c, z⟩ := x
  simp only [zstep] at h ⊢
  split at h
  · next hh => exact h
  · split at h
    · exact h
    · split at h
      · exact h
      · split at h
        · exact h
        · split at h
          · exact h
          · split at h
            · exact h
            · split at h
              · exact h
              · split at h
                · exact h
                · split at h
                  · next hh => rw [hY.1 _ _ _ _ _ hh]; exact h
                  · cases h
/-- where a step fails, but the instruction calls or returns, it fails with more of the outside too -/
theorem zstep_no {Y X : zXT} (hY : zXle Y X) {d : Nat} {q : zMI} {ins : Instr} {len : Nat} {x : zS} (h : zstep Y d q ins len x = none) (hc : (∃ ret s9, zret ret ins s9 ≠ none) ∨ (∃ c9 s9 h9, zcal c9 ins s9 h9 ≠ none)) : zstep X d q ins len x = none := by
  have hX : ∀ (d9 cn9 : Nat) (st9 : List Value), X d9 cn9 ins st9 = none := by
    intro d9 cn9 st9
    cases he : X d9 cn9 ins st9 with
    | none => rfl
    | some v =>
      have h9 := hY.2.1 d9 cn9 ins st9 (by rw [he]; intro q; cases q)
      rcases hc with ⟨ret, s9, h8⟩ | ⟨c9, s9, h7, h8⟩
      · exact absurd (h9.1 ret s9) h8
      · exact absurd (h9.2 c9 s9 h7) h8
  obtain ⟨pc, lv, st, hp, c, z⟩ := x
  simp only [zstep] at h ⊢
  split at h
  · exact h
  · split at h
    · exact h
    · split at h
      · exact h
      · split at h
        · cases h
        · split at h
          · exact h
          · split at h
            · exact h
            · split at h
              · exact h
              · split at h
                · exact h
                · rw [hX]
theorem zrun_ext {Y X : zXT} (hY : zXle Y X) : ∀ (n d : Nat) (q : zMI) (x : zS) (r : zR), zrun Y n d q x = some r → zrun X n d q x = some r := by
  intro n
  induction n with
  | zero => intro d q x r h; cases h
  | succ n ih =>
    intro d q x r h
    rw [zrun_s] at h ⊢
    unfold zbody at h ⊢
    split at h
    · next ins len hd =>
      split at h
      · next x' hs => rw [zstep_ext hY hs]; exact ih _ _ _ _ h
      · next hs =>
        split at h
        · next rv hr =>
          rw [zstep_no hY hs (Or.inl ⟨_, _, by rw [hr]; intro q; cases q⟩)]
          exact h
        · next hr =>
          split at h
          · cases h
          · split at h
            · next q' as rest hc =>
              rw [zstep_no hY hs (Or.inr ⟨_, _, _, by rw [hc]; intro q; cases q⟩)]
              split at h
              · next h3 =>
                try dsimp only
                try rw [if_pos h3]
                split at h
                · next rv hp' c' z' hr9 =>
                  rw [ih _ _ _ _ hr9]
                  exact ih _ _ _ _ h
                · cases h
              · cases h
            · cases h
    · cases h
theorem zrun_more (X : zXT) : ∀ (n d : Nat) (q : zMI) (x : zS) (r : zR), zrun X n d q x = some r → zrun X (n + 1) d q x = some r := by
  intro n
  induction n with
  | zero => intro d q x r h; cases h
  | succ n ih =>
    intro d q x r h
    rw [zrun_s] at h ⊢
    unfold zbody at h ⊢
    split at h
    · next ins len hd =>
      split at h
      · next x' hs => exact ih _ _ _ _ h
      · next hs =>
        split at h
        · next rv hr => exact h
        · next hr =>
          split at h
          · cases h
          · split at h
            · next q' as rest hc =>
              split at h
              · next h3 =>
                try dsimp only
                try rw [if_pos h3]
                split at h
                · next rv hp' c' z' hr9 =>
                  rw [ih _ _ _ _ hr9]
                  exact ih _ _ _ _ h
                · cases h
              · cases h
            · cases h
    · cases h
theorem zrun_le (X : zXT) {n m d : Nat} {q : zMI} {x : zS} {r : zR} (hnm : n ≤ m) (h : zrun X n d q x = some r) : zrun X m d q x = some r := by
  induction hnm with
  | refl => exact h
  | step _ ih => exact zrun_more X _ _ _ _ _ ih
theorem zstep_d {X : zXT} (hX : ∀ (d d' cn : Nat) (ins : Instr) (st : List Value), X d cn ins st = X d' cn ins st) {d d' : Nat} (hd : d ≤ d') {q : zMI} {ins : Instr} {len : Nat} {x : zS} : (∀ x', zstep X d q ins len x = some x' → zstep X d' q ins len x = some x') ∧ (sOb q.1 ins x.2.2.1 x.2.2.2.1 = none → zstep X d' q ins len x = zstep X d q ins len x) := by
  obtain ⟨pc, lv, st, hp, c, z⟩ := x
  constructor
  · intro x' h
    simp only [zstep] at h ⊢
    split at h
    · exact h
    · split at h
      · exact h
      · split at h
        · exact h
        · split at h
          · exact h
          · split at h
            · exact h
            · split at h
              · exact h
              · split at h
                · exact h
                · split at h
                  · next hh =>
                    split at h
                    · next h1 => rw [if_pos (by omega)]; exact h
                    · cases h
                  · rw [hX d' d]; exact h
  · intro h
    simp only [zstep]
    simp only at h
    rw [h, hX d' d]
/-- a run, with fuel enough -/
def zGo (X : zXT) (d : Nat) (q : zMI) (x : zS) (r : zR) : Prop := ∃ n, zrun X n d q x = some r
theorem zGo_step {X : zXT} {d : Nat} {q : zMI} {ins : Instr} {len : Nat} {x x' : zS} {r : zR} (hd : decode q.2.2.1 x.1 = .ok (ins, len)) (hs : zstep X d q ins len x = some x') (h : zGo X d q x' r) : zGo X d q x r := by
  obtain ⟨n, h⟩ := h
  refine ⟨n + 1, ?_⟩
  rw [zrun_s]
  unfold zbody
  rw [hd]
  simp only [hs]
  exact h
theorem zGo_ret {X : zXT} {d : Nat} {q : zMI} {ins : Instr} {pc c z : Nat} {lv : List (Nat × Value)} {st : List Value} {hp : List PE} {rv : Option Value} (hd : decode q.2.2.1 pc = .ok (ins, 1)) (hs : zstep X d q ins 1 (pc, lv, st, hp, c, z) = none) (hr : zret q.2.2.2.2.1 ins st = some rv) : zGo X d q (pc, lv, st, hp, c, z) (rv, hp, c, z) := by
  refine ⟨1, ?_⟩
  rw [zrun_s]
  unfold zbody
  simp only [hd, hs, hr, if_pos]
theorem zGo_call {X : zXT} {d : Nat} {q q' : zMI} {ins : Instr} {pc c z c' z' : Nat} {lv : List (Nat × Value)} {st as rest : List Value} {hp hp' : List PE} {rv : Option Value} {r : zR} (hd : decode q.2.2.1 pc = .ok (ins, 3)) (hs : zstep X (d + 1) q ins 3 (pc, lv, st, hp, c, z) = none) (hr : zret q.2.2.2.2.1 ins st = none) (hc : zcal q.1 ins st hp = some (q', as, rest))
    (h1 : zGo X d q' (0, lv_args 0 as, [], hp, 0, 0) (rv, hp', c', z')) (h2 : zGo X (d + 1) q (pc + 3, lv, rv.toList ++ rest, hp', c + c', z + z') r) : zGo X (d + 1) q (pc, lv, st, hp, c, z) r := by
  obtain ⟨n1, h1⟩ := h1
  obtain ⟨n2, h2⟩ := h2
  refine ⟨(n1 + n2) + 1, ?_⟩
  rw [zrun_s]
  unfold zbody
  simp only [hd, hs, hr, hc, if_pos]
  rw [zrun_le X (Nat.le_add_right n1 n2) h1]
  exact zrun_le X (Nat.le_add_left n2 n1) h2
theorem zret_sOb {ret : Option FieldType} {ins : Instr} {st st9 : List Value} {rv : Option Value} {cn : Nat} {hp : List PE} (h : zret ret ins st = some rv) : sOb cn ins st9 hp = none := by
  cases ins with
  | ireturn => rfl
  | lreturn => rfl
  | return_ => rfl
  | _ => have h2 : (none : Option (Option Value)) = some rv := h; cases h2
theorem zstep_d1 {X : zXT} (hX : ∀ (d d' cn : Nat) (ins : Instr) (st : List Value), X d cn ins st = X d' cn ins st) {d d' : Nat} (h1 : 1 ≤ d) (hd : d ≤ d') {q : zMI} {ins : Instr} {len : Nat} {x : zS} : zstep X d' q ins len x = zstep X d q ins len x := by
  obtain ⟨pc, lv, st, hp, c, z⟩ := x
  have h2 : 1 ≤ d' := Nat.le_trans h1 hd
  simp only [zstep, hX d' d, eq_true h1, eq_true h2, if_true]
theorem zrun_depth {X : zXT} (hX : ∀ (d d' cn : Nat) (ins : Instr) (st : List Value), X d cn ins st = X d' cn ins st) : ∀ (n d d' : Nat) (q : zMI) (x : zS) (r : zR), d ≤ d' → zrun X n d q x = some r → zrun X n d' q x = some r := by
  intro n
  induction n with
  | zero => intro d d' q x r _ h; cases h
  | succ n ih =>
    intro d d' q x r hdd h
    rw [zrun_s] at h ⊢
    unfold zbody at h ⊢
    split at h
    · next ins len hd =>
      split at h
      · next x' hs => rw [(zstep_d hX hdd).1 _ hs]; exact ih _ _ _ _ _ hdd h
      · next hs =>
        split at h
        · next rv hr =>
          rw [(zstep_d hX hdd).2 (zret_sOb hr), hs]
          exact h
        · next hr =>
          cases d with
          | zero => cases h
          | succ d0 =>
            cases d' with
            | zero => omega
            | succ d1 =>
              rw [zstep_d1 hX (by omega) hdd, hs]
              dsimp only at h ⊢
              split at h
              · next q' as rest hc =>
                split at h
                · next h3 =>
                  try dsimp only
                  try rw [if_pos h3]
                  split at h
                  · next rv hp' c' z' hr9 =>
                    rw [ih _ _ _ _ _ (by omega) hr9]
                    exact ih _ _ _ _ _ hdd h
                  · cases h
                · cases h
              · cases h
    · cases h
theorem zGo_of {Y X : zXT} (hY : zXle Y X) {n d d' j : Nat} {q : zMI} {x : zS} {r : zR} (hq : ymi j = some q) (hd : d ≤ d') (h : yrun Y n d j x = some r) : zGo X d' q x r :=
  ⟨n, zrun_depth hY.2.2 n d d' q x r hd (zrun_ext hY n d q x r (yrun_ok Y n d j q x r hq h))⟩
