/-! my machine over the tables; more fuel, more depth, more of the outside do no harm -/
def yIn (cn idx : Nat) : Option Nat := match (zmthT cn).find? (fun e => e.1 == idx) with
  | some e => some e.2.1
  | none => none
def ycal (cn : Nat) (ins : Instr) (st : List Value) (hp : List PE) : Option (Nat × List Value × List Value) := match ins with
  | .invokevirtual idx => (match yIn cn idx with
    | some j => (match zmi j with
      | some q => (match zcV q st hp with
        | some r => some (j, r.2.1, r.2.2)
        | none => none)
      | none => none)
    | none => none)
  | .invokespecial idx => (match yIn cn idx with
    | some j => (match zmi j with
      | some q => (match zcI q st with
        | some r => some (j, r.2.1, r.2.2)
        | none => none)
      | none => none)
    | none => if cn = 13 ∧ idx = 19 then (match zcI (12, yX12_init, cX12_init, 1, none, 0, 1) st with
        | some r => some (161, r.2.1, r.2.2)
        | none => none) else none)
  | .invokestatic idx => (match yIn cn idx with
    | some j => (match zmi j with
      | some q => (match zcS q st with
        | some r => some (j, r.2.1, r.2.2)
        | none => none)
      | none => none)
    | none => none)
  | _ => none
theorem zcV_q {q : zMI} {st : List Value} {hp : List PE} {r : zMI × List Value × List Value} (h : zcV q st hp = some r) : r.1 = q := by
  obtain ⟨q', as, rest⟩ := r
  obtain ⟨b, As, e1, -⟩ := zcV_s h
  exact e1
theorem zcI_q {q : zMI} {st : List Value} {r : zMI × List Value × List Value} (h : zcI q st = some r) : r.1 = q := by
  obtain ⟨q', as, rest⟩ := r
  obtain ⟨b, As, e1, -⟩ := zcI_s h
  exact e1
theorem zcS_q {q : zMI} {st : List Value} {r : zMI × List Value × List Value} (h : zcS q st = some r) : r.1 = q := by
  obtain ⟨q', as, rest⟩ := r
  obtain ⟨e1, -⟩ := zcS_s h
  exact e1
theorem yIn_zmth {cn idx j : Nat} (h : yIn cn idx = some j) : zmth cn idx = zmi j := by
  unfold yIn at h
  unfold zmth
  split at h
  · next e9 he => cases h; rw [he]
  · cases h
theorem yIn_none {cn idx : Nat} (h : yIn cn idx = none) : zmth cn idx = none := by
  unfold yIn at h
  unfold zmth
  split at h
  · cases h
  · next he => rw [he]
theorem ycal_ok {cn j : Nat} {ins : Instr} {st as rest : List Value} {hp : List PE} (h : ycal cn ins st hp = some (j, as, rest)) : ∃ q, zmi j = some q ∧ zcal cn ins st hp = some (q, as, rest) := by
  cases ins with
  | invokevirtual idx =>
    simp only [ycal] at h
    split at h
    · next j1 hj =>
      split at h
      · next q hq =>
        split at h
        · next r hr =>
          cases h
          refine ⟨q, hq, ?_⟩
          simp only [zcal, yIn_zmth hj, hq, hr]
          have e9 := zcV_q hr
          obtain ⟨r1, r2, r3⟩ := r
          cases e9
          rfl
        · cases h
      · cases h
    · cases h
  | invokespecial idx =>
    simp only [ycal] at h
    split at h
    · next j1 hj =>
      split at h
      · next q hq =>
        split at h
        · next r hr =>
          cases h
          refine ⟨q, hq, ?_⟩
          simp only [zcal, yIn_zmth hj, hq, hr]
          have e9 := zcI_q hr
          obtain ⟨r1, r2, r3⟩ := r
          cases e9
          rfl
        · cases h
      · cases h
    · next hj =>
      split at h
      · next hcn =>
        split at h
        · next r hr =>
          cases h
          refine ⟨(12, yX12_init, cX12_init, 1, none, 0, 1), rfl, ?_⟩
          simp only [zcal, yIn_none hj]
          rw [if_pos hcn, hr]
          have e9 := zcI_q hr
          obtain ⟨r1, r2, r3⟩ := r
          cases e9
          rfl
        · cases h
      · cases h
  | invokestatic idx =>
    simp only [ycal] at h
    split at h
    · next j1 hj =>
      split at h
      · next q hq =>
        split at h
        · next r hr =>
          cases h
          refine ⟨q, hq, ?_⟩
          simp only [zcal, yIn_zmth hj, hq, hr]
          have e9 := zcS_q hr
          obtain ⟨r1, r2, r3⟩ := r
          cases e9
          rfl
        · cases h
      · cases h
    · cases h
  | _ => have h2 : (none : Option (Nat × List Value × List Value)) = some (j, as, rest) := h; cases h2
def ybody (X : zXT) (ih : Nat → Nat → zS → Option zR) (d j : Nat) (x : zS) : Option zR := match ymi j with
  | some q => (match (yTb j).find? (fun e => e.1 == x.1) with
    | some e => (match zstep X d q e.2.1 e.2.2 x with
      | some x' => ih d j x'
      | none => match zret q.2.2.2.2.1 e.2.1 x.2.2.1 with
        | some rv => if e.2.2 = 1 then some (rv, x.2.2.2.1, x.2.2.2.2.1, x.2.2.2.2.2) else none
        | none => match d with
          | 0 => none
          | d' + 1 => match ycal q.1 e.2.1 x.2.2.1 x.2.2.2.1 with
            | some (j', args, rest) => if e.2.2 = 3 then (match ih d' j' (0, lv_args 0 args, [], x.2.2.2.1, 0, 0) with
              | some (rv, hp', c', z') => ih (d' + 1) j (x.1 + 3, x.2.1, rv.toList ++ rest, hp', x.2.2.2.2.1 + c', x.2.2.2.2.2 + z')
              | none => none) else none
            | none => none)
    | none => none)
  | none => none
def yrun (X : zXT) (n : Nat) : Nat → Nat → zS → Option zR := Nat.rec (fun _ _ _ => none) (fun _ ih d j x => ybody X ih d j x) n
theorem yrun_s (X : zXT) (n d j : Nat) (x : zS) : yrun X (n + 1) d j x = ybody X (yrun X n) d j x := rfl
theorem ymi_of {j : Nat} {q : zMI} (h : zmi j = some q) : ymi j = some q := by
  unfold ymi
  split
  · next hj => subst hj; cases h
  · exact h
theorem yrun_ok (X : zXT) : ∀ (n d j : Nat) (q : zMI) (x : zS) (r : zR), ymi j = some q → yrun X n d j x = some r → zrun X n d q x = some r := by
  intro n
  induction n with
  | zero => intro d j q x r _ h; cases h
  | succ n ih =>
    intro d j q x r hq h
    rw [yrun_s] at h
    rw [zrun_s]
    unfold ybody at h
    rw [hq] at h
    simp only at h
    split at h
    · next e9 he =>
      have hd := of_decide_eq_true (List.all_eq_true.mp (yTb_ok hq) e9 (List.mem_of_find?_eq_some he))
      have h2 : e9.1 = x.1 := by simpa using List.find?_some he
      rw [h2] at hd
      unfold zbody
      rw [hd]
      simp only
      split at h
      · next x' hs => rw [hs]; exact ih _ _ _ _ _ hq h
      · next hs =>
        rw [hs]
        simp only
        split at h
        · next rv hr => rw [hr]; exact h
        · next hr =>
          rw [hr]
          simp only
          split at h
          · cases h
          · split at h
            · next j' as rest hc =>
              obtain ⟨q', hq', hz⟩ := ycal_ok hc
              rw [hz]
              simp only
              split at h
              · next h3 =>
                rw [if_pos h3]
                split at h
                · next rv hp' c' z' hr9 =>
                  rw [ih _ _ _ _ _ (ymi_of hq') hr9]
                  exact ih _ _ _ _ _ hq h
                · cases h
              · cases h
            · cases h
    · cases h
