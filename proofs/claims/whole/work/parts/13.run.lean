/-! Part 7: the machine itself, and that the given one follows it -/
abbrev zMI : Type := Nat × MethodName × ByteArray × Nat × Option FieldType × Nat × Nat
abbrev zS : Type := Nat × List (Nat × Value) × List Value × List PE × Nat × Nat
abbrev zR : Type := Option Value × List PE × Nat × Nat
/-- what lies outside (texts, a static array): a step that leaves the heap alone -/
abbrev zXT : Type := Nat → Nat → Instr → List Value → Option (Nat × List Value)
def zk (n len : Nat) (x : zS) : Option zS := if n = len then some x else none
theorem zk_s {n len : Nat} {x y : zS} (h : zk n len x = some y) : n = len ∧ y = x := by
  unfold zk at h
  split at h
  · cases h; exact ⟨by assumption, rfl⟩
  · cases h
def zstep (X : zXT) (d : Nat) (q : zMI) (ins : Instr) (len : Nat) (x : zS) : Option zS := match x with
  | (pc, lv, st, hp, c, z) => match sStk ins st with
    | some (n, st') => zk n len (pc + n, lv, st', hp, c, z)
    | none => match sLd ins lv st with
      | some (n, st') => zk n len (pc + n, lv, st', hp, c, z)
      | none => match sSv ins q.2.2.2.1 lv st with
        | some (n, lv', st') => zk n len (pc + n, lv', st', hp, c, z)
        | none => match sBr ins len pc st with
          | some (pc', st') => some (pc', lv, st', hp, c, z)
          | none => match sHp q.1 (q.2.2.2.2.2.2 == 1) ins st hp with
            | some (n, st', hp') => zk n len (pc + n, lv, st', hp', c, z)
            | none => match sCo q.1 ins st with
              | some (n, st') => zk n len (pc + n, lv, st', hp, c, z)
              | none => match sNw q.1 ins st hp with
                | some (n, st', hp', dc, dz) => zk n len (pc + n, lv, st', hp', c + dc, z + dz)
                | none => match sOb q.1 ins st hp with
                  | some (st', hp') => if 1 ≤ d then zk 3 len (pc + 3, lv, st', hp', c, z) else none
                  | none => match X d q.1 ins st with
                    | some (n, st') => zk n len (pc + n, lv, st', hp, c, z)
                    | none => none
def zret (ret : Option FieldType) (ins : Instr) (st : List Value) : Option (Option Value) := match ins with
  | .ireturn => (match st with
    | [.int v] => (match ret with
      | some .int => some (some (.int v))
      | some .boolean => if v = 0 ∨ v = 1 then some (some (.int v)) else none
      | some .char => if v.toUInt32.toUInt16.toUInt32.toInt32 = v then some (some (.int v)) else none
      | some .byte => if v.toInt8.toInt32 = v then some (some (.int v)) else none
      | _ => none)
    | _ => none)
  | .lreturn => (match st with
    | [.long v] => (match ret with
      | some .long => some (some (.long v))
      | _ => none)
    | _ => none)
  | .return_ => (match st with
    | [] => (match ret with
      | none => some none
      | _ => none)
    | _ => none)
  | _ => none
/-- the method that a pool number means -/
def zmth (cn idx : Nat) : Option zMI := match (zmthT cn).find? (fun e => e.1 == idx) with
  | some e => zmi e.2.1
  | none => none
def zfitA (q : zMI) (args rest : List Value) : Bool := decide (zwd rest ≤ 8) && decide ((lg_sl args).length ≤ q.2.2.2.1)
/-- is this the object of a call of a method of class cn -/
def zrcv (cn : Nat) (hp : List PE) (b : Nat) : Bool := match hget hp b with
  | some (.inr (ci, _)) => decide (ci = cn) && decide (cn < 14)
  | _ => decide (cn = 20) && decide (b < 51)
def zcV (q : zMI) (st : List Value) (hp : List PE) : Option (zMI × List Value × List Value) := match st.drop q.2.2.2.2.2.1 with
  | .ref b :: rest => if q.2.2.2.2.2.2 = 0 ∧ zrcv q.1 hp b = true ∧ (st.take q.2.2.2.2.2.1).length = q.2.2.2.2.2.1 ∧ zfitA q (.ref b :: (st.take q.2.2.2.2.2.1).reverse) rest = true then some (q, .ref b :: (st.take q.2.2.2.2.2.1).reverse, rest) else none
  | _ => none
def zcI (q : zMI) (st : List Value) : Option (zMI × List Value × List Value) := match st.drop q.2.2.2.2.2.1 with
  | .ref b :: rest => if q.2.2.2.2.2.2 = 1 ∧ (st.take q.2.2.2.2.2.1).length = q.2.2.2.2.2.1 ∧ zfitA q (.ref b :: (st.take q.2.2.2.2.2.1).reverse) rest = true then some (q, .ref b :: (st.take q.2.2.2.2.2.1).reverse, rest) else none
  | _ => none
def zcS (q : zMI) (st : List Value) : Option (zMI × List Value × List Value) :=
  if q.2.2.2.2.2.2 = 2 ∧ (st.take q.2.2.2.2.2.1).length = q.2.2.2.2.2.1 ∧ zfitA q (st.take q.2.2.2.2.2.1).reverse (st.drop q.2.2.2.2.2.1) = true then some (q, (st.take q.2.2.2.2.2.1).reverse, st.drop q.2.2.2.2.2.1) else none
def zcal (cn : Nat) (ins : Instr) (st : List Value) (hp : List PE) : Option (zMI × List Value × List Value) := match ins with
  | .invokevirtual idx => (match zmth cn idx with
    | some q => zcV q st hp
    | none => none)
  | .invokespecial idx => (match zmth cn idx with
    | some q => zcI q st
    | none => if cn = 13 ∧ idx = 19 then zcI (12, yX12_init, cX12_init, 1, none, 0, 1) st else none)
  | .invokestatic idx => (match zmth cn idx with
    | some q => zcS q st
    | none => none)
  | _ => none
def zbody (X : zXT) (ih : Nat → zMI → zS → Option zR) (d : Nat) (q : zMI) (x : zS) : Option zR := match decode q.2.2.1 x.1 with
  | .ok (ins, len) => (match zstep X d q ins len x with
    | some x' => ih d q x'
    | none => match zret q.2.2.2.2.1 ins x.2.2.1 with
      | some rv => if len = 1 then some (rv, x.2.2.2.1, x.2.2.2.2.1, x.2.2.2.2.2) else none
      | none => match d with
        | 0 => none
        | d' + 1 => match zcal q.1 ins x.2.2.1 x.2.2.2.1 with
          | some (q', args, rest) => if len = 3 then (match ih d' q' (0, lv_args 0 args, [], x.2.2.2.1, 0, 0) with
            | some (rv, hp', c', z') => ih (d' + 1) q (x.1 + 3, x.2.1, rv.toList ++ rest, hp', x.2.2.2.2.1 + c', x.2.2.2.2.2 + z')
            | none => none) else none
          | none => none)
  | .error _ => none
def zrun (X : zXT) (n : Nat) : Nat → zMI → zS → Option zR := Nat.rec (fun _ _ _ => none) (fun _ ih d q x => zbody X ih d q x) n
theorem zrun_s (X : zXT) (n d : Nat) (q : zMI) (x : zS) : zrun X (n + 1) d q x = zbody X (zrun X n) d q x := rfl
/-- how the counts move -/
def zcnt (hp : List PE) (c z : Nat) (hp' : List PE) (c' z' : Nat) : Prop := hp'.length + c = hp.length + c' ∧ c ≤ c' ∧ z ≤ z'
theorem zcnt_rf {hp : List PE} {c z : Nat} : zcnt hp c z hp c z := ⟨rfl, Nat.le_refl _, Nat.le_refl _⟩
theorem zcnt_tr {h1 h2 h3 : List PE} {c1 z1 c2 z2 c3 z3 : Nat} (a : zcnt h1 c1 z1 h2 c2 z2) (b : zcnt h2 c2 z2 h3 c3 z3) : zcnt h1 c1 z1 h3 c3 z3 := by
  obtain ⟨a1, a2, a3⟩ := a
  obtain ⟨b1, b2, b3⟩ := b
  exact ⟨by omega, by omega, by omega⟩
theorem sHp_len {cn : Nat} {ini : Bool} {ins : Instr} {n : Nat} {st st' : List Value} {hp hp' : List PE} (h : sHp cn ini ins st hp = some (n, st', hp')) : hp'.length = hp.length := by
  cases ins with
  | getfield idx => obtain ⟨a, r, b, ci, kk, fs, v, -, -, -, -, -, -, rfl⟩ := zgf_s h; rfl
  | putfield idx => obtain ⟨v, a, b, ci, kk, fs, -, -, -, -, -, -, -, rfl⟩ := zpf_s h; exact List.length_set
  | iaload => obtain ⟨i, a, r, t0, kk, f, -, -, -, -, -, -, rfl⟩ := zaI_s h; rfl
  | baload => obtain ⟨i, a, r, t0, kk, f, -, -, -, -, -, -, rfl⟩ := zaI_s h; rfl
  | laload => obtain ⟨i, a, r, kk, f, -, -, -, -, -, rfl⟩ := zaJ_s h; rfl
  | aaload => obtain ⟨i, a, r, t0, kk, f, -, -, -, -, -, -, rfl⟩ := zaA_s h; rfl
  | arraylength => obtain ⟨a, r, t0, x, -, -, -, -, -, rfl⟩ := zaL_s h; rfl
  | iastore => obtain ⟨x, i, a, t0, kk, f, g, -, -, -, -, -, rfl⟩ := zasI_s h; exact List.length_set
  | bastore => obtain ⟨x, i, a, t0, kk, f, g, -, -, -, -, -, rfl⟩ := zasI_s h; exact List.length_set
  | lastore => obtain ⟨x, i, a, kk, f, -, -, -, -, rfl⟩ := zasJ_s h; exact List.length_set
  | aastore => obtain ⟨v, i, a, kk, f, fs, -, -, -, -, -, rfl⟩ := zasA_s h; exact List.length_set
  | _ => have h2 : (none : Option (Nat × List Value × List PE)) = some (n, st', hp') := h; cases h2
theorem sNw_len {cn : Nat} {ins : Instr} {n dc dz : Nat} {st st' : List Value} {hp hp' : List PE} (h : sNw cn ins st hp = some (n, st', hp', dc, dz)) : hp'.length = hp.length + dc := by
  cases ins with
  | new idx => obtain ⟨ci, -, -, -, rfl, rfl, -⟩ := znw_s h; simp
  | newarray t => obtain ⟨kk, r, a, -, -, -, -, -, -, rfl, rfl, -⟩ := zna_s h; simp
  | anewarray idx => obtain ⟨kk, r, -, -, -, -, -, -, rfl, rfl, -⟩ := znq_s h; simp
  | multianewarray i dd => obtain ⟨nn, kk, r, -, -, -, -, -, -, -, -, -, -, rfl, rfl, -⟩ := zmn_s h; simp; omega
  | _ => have h2 : (none : Option (Nat × List Value × List PE × Nat × Nat)) = some (n, st', hp', dc, dz) := h; cases h2
theorem sOb_len {cn : Nat} {ins : Instr} {st st' : List Value} {hp hp' : List PE} (h : sOb cn ins st hp = some (st', hp')) : hp'.length = hp.length := by
  cases ins with
  | invokespecial idx =>
    simp only [sOb] at h
    split at h
    · split at h
      · cases h; rfl
      · cases h
    · cases h
  | invokestatic idx =>
    simp only [sOb] at h
    split at h
    · split at h
      · split at h
        · split at h
          · cases h
          · split at h
            · cases h; exact List.length_set
            · cases h
        · cases h
      · cases h
    · split at h
      · split at h
        · cases h; rfl
        · split at h
          · cases h; rfl
          · cases h
      · cases h
    · cases h
  | _ => have h2 : (none : Option (List Value × List PE)) = some (st', hp') := h; cases h2
theorem zstep_cnt {X : zXT} {d : Nat} {q : zMI} {ins : Instr} {len pc pc' c z c' z' : Nat} {lv lv' : List (Nat × Value)} {st st' : List Value} {hp hp' : List PE} (h : zstep X d q ins len (pc, lv, st, hp, c, z) = some (pc', lv', st', hp', c', z')) : zcnt hp c z hp' c' z' := by
  simp only [zstep] at h
  split at h
  · obtain ⟨-, e⟩ := zk_s h; cases e; exact zcnt_rf
  · split at h
    · obtain ⟨-, e⟩ := zk_s h; cases e; exact zcnt_rf
    · split at h
      · obtain ⟨-, e⟩ := zk_s h; cases e; exact zcnt_rf
      · split at h
        · cases h; exact zcnt_rf
        · split at h
          · next hh => obtain ⟨-, e⟩ := zk_s h; cases e; exact ⟨by rw [sHp_len hh], Nat.le_refl _, Nat.le_refl _⟩
          · split at h
            · obtain ⟨-, e⟩ := zk_s h; cases e; exact zcnt_rf
            · split at h
              · next hh => obtain ⟨-, e⟩ := zk_s h; cases e; exact ⟨by rw [sNw_len hh]; omega, Nat.le_add_right _ _, Nat.le_add_right _ _⟩
              · split at h
                · next hh =>
                  split at h
                  · obtain ⟨-, e⟩ := zk_s h; cases e; exact ⟨by rw [sOb_len hh], Nat.le_refl _, Nat.le_refl _⟩
                  · cases h
                · split at h
                  · obtain ⟨-, e⟩ := zk_s h; cases e; exact zcnt_rf
                  · cases h
theorem zrun_cnt (X : zXT) : ∀ (n d : Nat) (q : zMI) (pc : Nat) (lv : List (Nat × Value)) (st : List Value) (hp : List PE) (c z : Nat) (rv : Option Value) (hp' : List PE) (c' z' : Nat), zrun X n d q (pc, lv, st, hp, c, z) = some (rv, hp', c', z') → zcnt hp c z hp' c' z' := by
  intro n
  induction n with
  | zero => intro d q pc lv st hp c z rv hp' c' z' h; cases h
  | succ n ih =>
    intro d q pc lv st hp c z rv hp' c' z' h
    rw [zrun_s] at h
    simp only [zbody] at h
    split at h
    · split at h
      · next x' hs =>
        obtain ⟨pc1, lv1, st1, hp1, c1, z1⟩ := x'
        exact zcnt_tr (zstep_cnt hs) (ih _ _ _ _ _ _ _ _ _ _ _ _ h)
      · split at h
        · split at h
          · cases h; exact zcnt_rf
          · cases h
        · split at h
          · cases h
          · split at h
            · split at h
              · split at h
                · next hc =>
                  obtain ⟨a1, a2, a3⟩ := ih _ _ _ _ _ _ _ _ _ _ _ _ hc
                  refine zcnt_tr ⟨?_, ?_, ?_⟩ (ih _ _ _ _ _ _ _ _ _ _ _ _ h) <;> omega
                · cases h
              · cases h
            · cases h
    · cases h
