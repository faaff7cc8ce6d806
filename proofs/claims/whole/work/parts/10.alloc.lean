/-! Part 4: constants of the pool, new objects and arrays, Object's constructor, arraycopy -/
def zco (cn idx : Nat) : Option Value := ((zcnT cn).find? (fun q => q.1 == idx)).map (fun q => q.2.1)
theorem zco_ok {cn idx : Nat} {v : Value} (h : zco cn idx = some v) : (∃ x, v = .int x ∧ Cond.constant (Rn cn) idx x ∈ zWS) ∨ (∃ x, v = .long x ∧ Cond.constantLong (Rn cn) idx x ∈ zWS) := by
  unfold zco at h
  cases hf : (zcnT cn).find? (fun q => q.1 == idx) with
  | none => rw [hf] at h; cases h
  | some q =>
    rw [hf] at h
    have h1 : q.2.1 = v := Option.some.inj h
    have h2 : q.1 = idx := by simpa using List.find?_some hf
    have h3 := List.all_eq_true.mp (zconC_all cn) q (List.mem_of_find?_eq_some hf)
    unfold zconC at h3
    rw [h1, h2] at h3
    split at h3
    · exact Or.inl ⟨_, rfl, zin _ (of_decide_eq_true h3) rfl⟩
    · exact Or.inr ⟨_, rfl, zin _ (of_decide_eq_true h3) rfl⟩
    · cases h3
def zldc (n : Nat) (v : Option Value) (st : List Value) : Option (Nat × List Value) := match v with
  | some (.int x) => some (n, .int x :: st)
  | _ => none
def zldc2 (v : Option Value) (st : List Value) : Option (Nat × List Value) := match v with
  | some (.long x) => some (3, .long x :: st)
  | _ => none
theorem zldc_s {n n' : Nat} {v : Option Value} {st st' : List Value} (h : zldc n v st = some (n', st')) : ∃ x, v = some (.int x) ∧ n' = n ∧ st' = .int x :: st := by
  unfold zldc at h
  split at h
  · cases h; exact ⟨_, rfl, rfl, rfl⟩
  · cases h
theorem zldc2_s {n' : Nat} {v : Option Value} {st st' : List Value} (h : zldc2 v st = some (n', st')) : ∃ x, v = some (.long x) ∧ n' = 3 ∧ st' = .long x :: st := by
  unfold zldc2 at h
  split at h
  · cases h; exact ⟨_, rfl, rfl, rfl⟩
  · cases h
def sCo (cn : Nat) (ins : Instr) (st : List Value) : Option (Nat × List Value) := match ins with
  | .ldc idx => zldc 2 (zco cn idx) st
  | .ldc_w idx => zldc 3 (zco cn idx) st
  | .ldc2_w idx => zldc2 (zco cn idx) st
  | _ => none
/-- the default fields of a new object -/
def zdef (ci : Nat) : List Value := (List.range (zNf ci)).map (fun j => defaultValue (zty ci j))
theorem pv_def (ρ : Nat → Nat) (t : FieldType) : pv ρ (defaultValue t) = defaultValue t := by cases t <;> rfl
theorem zdef_pv (ρ : Nat → Nat) (ci : Nat) : (zdef ci).map (pv ρ) = zdef ci := by
  unfold zdef
  rw [List.map_map]
  exact List.map_congr_left fun j _ => pv_def ρ _
theorem zdef_get {ci j : Nat} (h : j < zNf ci) : defaultValue (zty ci j) = vp_V (zdef ci) j := by
  unfold vp_V zdef
  simp [List.getD, h]
def zcls (cn idx : Nat) : Option Nat := ((zclsT cn).find? (fun q => q.1 == idx)).map (fun q => q.2.1)
theorem zcls_ok {cn idx ci : Nat} (h : zcls cn idx = some ci) : ci < 14 ∧ Cond.classLink (Rn cn) idx (Rn ci) ∈ zWS := by
  unfold zcls at h
  cases hf : (zclsT cn).find? (fun q => q.1 == idx) with
  | none => rw [hf] at h; cases h
  | some q =>
    rw [hf] at h
    have h1 : q.2.1 = ci := Option.some.inj h
    have h2 : q.1 = idx := by simpa using List.find?_some hf
    have h3 := List.all_eq_true.mp (zclsC_all cn) q (List.mem_of_find?_eq_some hf)
    unfold zclsC at h3
    simp only [Bool.and_eq_true, decide_eq_true_eq] at h3
    rw [h1, h2] at h3
    exact ⟨h3.2, zin _ h3.1 rfl⟩
/-- a new array of a primitive kind: its kind, what it holds -/
def zak (t : ArrayType) (n : Nat) : Option (Nat × vp_A) := match t with
  | .int => some (0, (n, .inl (fun _ => 0)))
  | .byte => some (1, (n, .inl (fun _ => 0)))
  | .boolean => some (2, (n, .inl (fun _ => 0)))
  | .long => some (3, (n, .inr (.inl (fun _ => 0))))
  | _ => none
def zna (t : ArrayType) (st : List Value) (hp : List PE) : Option (Nat × List Value × List PE × Nat × Nat) := match st with
  | .int n :: r => (match zak t n.toNatClampNeg with
    | some a => if n < 0 then none else if n.toNatClampNeg * 8 ≤ 536870912 then some (2, .ref (zE + hp.length) :: r, hp ++ [.inl a], 1, n.toNatClampNeg) else none
    | none => none)
  | _ => none
theorem zna_s {t : ArrayType} {n dc dz : Nat} {st st' : List Value} {hp hp' : List PE} (h : zna t st hp = some (n, st', hp', dc, dz)) : ∃ k r a, st = .int k :: r ∧ zak t k.toNatClampNeg = some a ∧ ¬ k < 0 ∧ k.toNatClampNeg * 8 ≤ 536870912 ∧ n = 2 ∧ st' = .ref (zE + hp.length) :: r ∧ hp' = hp ++ [.inl a] ∧ dc = 1 ∧ dz = k.toNatClampNeg := by
  unfold zna at h
  split at h
  · split at h
    · next ha =>
      split at h
      · cases h
      · next h0 =>
        split at h
        · next h1 => cases h; exact ⟨_, _, _, rfl, ha, h0, h1, rfl, rfl, rfl, rfl, rfl⟩
        · cases h
    · cases h
  · cases h
def znq (cn idx : Nat) (st : List Value) (hp : List PE) : Option (Nat × List Value × List PE × Nat × Nat) := match st with
  | .int n :: r => if zcls cn idx = some 8 then (if n < 0 then none else if n.toNatClampNeg * 8 ≤ 536870912 then some (3, .ref (zE + hp.length) :: r, hp ++ [.inl (4, (n.toNatClampNeg, .inr (.inr (.inr (.inr (fun _ => none))))))], 1, n.toNatClampNeg) else none) else none
  | _ => none
theorem znq_s {cn idx n dc dz : Nat} {st st' : List Value} {hp hp' : List PE} (h : znq cn idx st hp = some (n, st', hp', dc, dz)) : ∃ k r, st = .int k :: r ∧ zcls cn idx = some 8 ∧ ¬ k < 0 ∧ k.toNatClampNeg * 8 ≤ 536870912 ∧ n = 3 ∧ st' = .ref (zE + hp.length) :: r ∧ hp' = hp ++ [.inl (4, (k.toNatClampNeg, .inr (.inr (.inr (.inr (fun _ => none))))))] ∧ dc = 1 ∧ dz = k.toNatClampNeg := by
  unfold znq at h
  split at h
  · split at h
    · next hc =>
      split at h
      · cases h
      · next h0 =>
        split at h
        · next h1 => cases h; exact ⟨_, _, rfl, hc, h0, h1, rfl, rfl, rfl, rfl, rfl⟩
        · cases h
    · cases h
  · cases h
def znw (cn idx : Nat) (st : List Value) (hp : List PE) : Option (Nat × List Value × List PE × Nat × Nat) := match zcls cn idx with
  | some ci => some (3, .ref (zE + hp.length) :: st, hp ++ [.inr (ci, zdef ci)], 1, zNf ci)
  | none => none
theorem znw_s {cn idx n dc dz : Nat} {st st' : List Value} {hp hp' : List PE} (h : znw cn idx st hp = some (n, st', hp', dc, dz)) : ∃ ci, zcls cn idx = some ci ∧ n = 3 ∧ st' = .ref (zE + hp.length) :: st ∧ hp' = hp ++ [.inr (ci, zdef ci)] ∧ dc = 1 ∧ dz = zNf ci := by
  unfold znw at h
  split at h
  · next hc => cases h; exact ⟨_, hc, rfl, rfl, rfl, rfl, rfl⟩
  · cases h
/-- new long[n][k] -/
def zmn (cn idx dim : Nat) (st : List Value) (hp : List PE) : Option (Nat × List Value × List PE × Nat × Nat) := match st with
  | .int k :: .int n :: r => if cn = 9 ∧ idx = 9 ∧ dim = 2 then (if n < 0 ∨ k < 0 then none else if n.toNatClampNeg * 8 ≤ 536870912 ∧ k.toNatClampNeg * 8 ≤ 536870912 then
      some (4, .ref (zE + hp.length) :: r, hp ++ (.inl (5, (n.toNatClampNeg, .inr (.inr (.inr (.inr (fun i => if i < n.toNatClampNeg then some (zE + hp.length + 1 + i) else none)))))) :: List.replicate n.toNatClampNeg (.inl (3, (k.toNatClampNeg, .inr (.inl (fun _ => 0)))))), 1 + n.toNatClampNeg, n.toNatClampNeg + n.toNatClampNeg * k.toNatClampNeg) else none) else none
  | _ => none
theorem zmn_s {cn idx dim n9 dc dz : Nat} {st st' : List Value} {hp hp' : List PE} (h : zmn cn idx dim st hp = some (n9, st', hp', dc, dz)) : ∃ n k r, st = .int k :: .int n :: r ∧ cn = 9 ∧ idx = 9 ∧ dim = 2 ∧ ¬ n < 0 ∧ ¬ k < 0 ∧ n.toNatClampNeg * 8 ≤ 536870912 ∧ k.toNatClampNeg * 8 ≤ 536870912 ∧ n9 = 4 ∧ st' = .ref (zE + hp.length) :: r ∧ hp' = hp ++ (.inl (5, (n.toNatClampNeg, .inr (.inr (.inr (.inr (fun i => if i < n.toNatClampNeg then some (zE + hp.length + 1 + i) else none)))))) :: List.replicate n.toNatClampNeg (.inl (3, (k.toNatClampNeg, .inr (.inl (fun _ => 0)))))) ∧ dc = 1 + n.toNatClampNeg ∧ dz = n.toNatClampNeg + n.toNatClampNeg * k.toNatClampNeg := by
  unfold zmn at h
  split at h
  · split at h
    · next hc =>
      split at h
      · cases h
      · next h0 =>
        split at h
        · next h1 => cases h; exact ⟨_, _, _, rfl, hc.1, hc.2.1, hc.2.2, fun q => h0 (Or.inl q), fun q => h0 (Or.inr q), h1.1, h1.2, rfl, rfl, rfl, rfl, rfl⟩
        · cases h
    · cases h
  · cases h
def sNw (cn : Nat) (ins : Instr) (st : List Value) (hp : List PE) : Option (Nat × List Value × List PE × Nat × Nat) := match ins with
  | .new idx => znw cn idx st hp
  | .newarray t => zna t st hp
  | .anewarray idx => znq cn idx st hp
  | .multianewarray idx dim => zmn cn idx dim st hp
  | _ => none
def zobj (cn idx : Nat) : Bool := ((zobjT cn).find? (fun q => q.1 == idx)).isSome
theorem zobj_ok {cn idx : Nat} (h : zobj cn idx = true) : Cond.methodLink (Rn cn) idx objectInit ∈ zWS := by
  unfold zobj at h
  cases hf : (zobjT cn).find? (fun q => q.1 == idx) with
  | none => rw [hf] at h; cases h
  | some q =>
    have h2 : q.1 = idx := by simpa using List.find?_some hf
    have h3 := List.all_eq_true.mp (zobjC_all cn) q (List.mem_of_find?_eq_some hf)
    unfold zobjC at h3
    rw [h2] at h3
    exact zin _ (of_decide_eq_true h3) rfl
def zcp (cn idx : Nat) : Bool := ((zcpT cn).find? (fun q => q.1 == idx)).isSome
theorem zcp_ok {cn idx : Nat} (h : zcp cn idx = true) : Cond.methodLink (Rn cn) idx arraycopyName ∈ zWS := by
  unfold zcp at h
  cases hf : (zcpT cn).find? (fun q => q.1 == idx) with
  | none => rw [hf] at h; cases h
  | some q =>
    have h2 : q.1 = idx := by simpa using List.find?_some hf
    have h3 := List.all_eq_true.mp (zcpC_all cn) q (List.mem_of_find?_eq_some hf)
    unfold zcpC at h3
    rw [h2] at h3
    exact zin _ (of_decide_eq_true h3) rfl
/-- the words on the operand stack -/
def zwd (st : List Value) : Nat := (st.map fun v => v.category).sum
def sOb (cn : Nat) (ins : Instr) (st : List Value) (hp : List PE) : Option (List Value × List PE) := match ins with
  | .invokespecial idx => (match st with
    | .ref _ :: r => if zobj cn idx = true ∧ zwd r ≤ 8 then some (r, hp) else none
    | _ => none)
  | .invokestatic idx => (match st with
    | .int n :: .int dp :: .ref a :: .int sp :: .ref a0 :: r => if zcp cn idx = true ∧ zwd r ≤ 8 then (match hget hp a0, hget hp a with
      | some (.inl (0, (n0, .inl f))), some (.inl (0, (n1, .inl g))) => if n < 0 ∨ dp < 0 ∨ sp < 0 then none else if sp.toNatClampNeg + n.toNatClampNeg ≤ n0 ∧ dp.toNatClampNeg + n.toNatClampNeg ≤ n1 then some (r, hp.set (a - zE) (.inl (0, (n1, .inl (va_cpy f g sp.toNatClampNeg dp.toNatClampNeg n.toNatClampNeg))))) else none
      | _, _ => none) else none
    | .int y :: .int x :: r => if zwd r ≤ 8 then (if cn = 21 ∧ idx = 92 then some (.int (if x < y then y else x) :: r, hp) else if cn = 21 ∧ idx = 38 then some (.int (if y < x then y else x) :: r, hp) else none) else none
    | _ => none)
  | _ => none
section ZM3
variable {p : Program} {l : Launch} {e : Env} {R : Room} {s : State} {m : MethodId} {args : Array Value} {below : List Frame} {meth : Method} {c : Code} {H : Heap} {locs : List Loc} {cells slots : Nat} {Q : State → Prop}
variable {cc : ByteArray} {pc : Nat} {ls : Array Slot} {ρ : Nat → Nat} {cy : Nat → ClassId} {base : Nat} {D : va_G}
theorem sCo_ok (hx : p.tables.exec = Jvm.exec) (hb : c.code = cc) (hts : ∀ w ∈ zWS, w.before args s = true) {cn : Nat} (hown : s.vm.findClass (Rn cn) = some m.cls) {ins : Instr} {st st' : List Value} {n : Nat} (hd : decode cc pc = .ok (ins, n)) (h : sCo cn ins st = some (n, st'))
    (k : W p l e R s m args below meth c H locs cells slots Q (F0 m (pc + n) ls (st'.map (pv ρ)))) : W p l e R s m args below meth c H locs cells slots Q (F0 m pc ls (st.map (pv ρ))) := by
  cases ins with
  | ldc idx =>
    obtain ⟨x, hz, rfl, rfl⟩ := zldc_s h
    rcases zco_ok hz with ⟨y, hy, hw⟩ | ⟨y, hy, hw⟩
    · cases hy; exact lv_ldc hx hb hown (hts _ hw) hd k
    · cases hy
  | ldc_w idx =>
    obtain ⟨x, hz, rfl, rfl⟩ := zldc_s h
    rcases zco_ok hz with ⟨y, hy, hw⟩ | ⟨y, hy, hw⟩
    · cases hy; exact lv_ldcw hx hb hown (hts _ hw) hd k
    · cases hy
  | ldc2_w idx =>
    obtain ⟨x, hz, rfl, rfl⟩ := zldc2_s h
    rcases zco_ok hz with ⟨y, hy, hw⟩ | ⟨y, hy, hw⟩
    · cases hy
    · cases hy; exact lv_ldc2 hx hb hown (hts _ hw) hd k
  | _ => have h2 : (none : Option (Nat × List Value)) = some (n, st') := h; cases h2
/-- a cell that is new among the places, with no more than one cell more on the heap, stands behind them -/
theorem zfresh {hp : List PE} {q : Nat} {e9 : va_E} {H1 : Heap} (h1 : va_P D vwCl (pw ρ cy base hp ++ [(q, e9)]) H1) (h2 : va_D (fun q => base ≤ q) (pw ρ cy base hp ++ [(q, e9)])) (hz : H1.size ≤ base + hp.length + 1) : q = base + hp.length := by
  have hl : (pw ρ cy base hp).length = hp.length := pw_len hp base
  have hlast : (pw ρ cy base hp ++ [(q, e9)])[hp.length]? = some (q, e9) := by
    rw [← hl]; simp
  have hlt : q < H1.size := (h1 _ _ hlast).lt
  have hge : base ≤ q := h2.2 _ _ hlast
  rcases Nat.lt_or_ge q (base + hp.length) with hc | hc
  · have hi : q - base < hp.length := by omega
    have hx : (pw ρ cy base hp ++ [(q, e9)])[q - base]? = some (base + (q - base), pe ρ cy hp[q - base]) := by
      rw [List.getElem?_append_left (by rw [hl]; exact hi), pw_get, List.getElem?_eq_getElem hi]
      rfl
    have := h2.1 _ _ _ _ hx hlast (by show base + (q - base) = q; omega)
    omega
  · omega
theorem hρ_new (hρ : ∀ a, zE ≤ a → ρ a = base + (a - zE)) (n : Nat) : ρ (zE + n) = base + n := by
  rw [hρ (zE + n) (Nat.le_add_right _ _), Nat.add_sub_cancel_left]
set_option maxHeartbeats 8000000 in
theorem sNw_ok (hρ : ∀ a, zE ≤ a → ρ a = base + (a - zE)) (hx : p.tables.exec = Jvm.exec) (hb : c.code = cc) (hts : ∀ w ∈ zWS, w.before args s = true) {cn : Nat} (hown : s.vm.findClass (Rn cn) = some m.cls)
    (hK : va_K D vwCl (zTys cy) s) (hAO : va_AO RX8 s) {hp hp' : List PE} (hP : va_P D vwCl (pw ρ cy base hp) H) (hS : va_S (fun q => base ≤ q) s.heap H locs) (hbs : base ≤ s.heap.size) (hsz : s.heap.size + cells = base + hp.length)
    {ins : Instr} {n dc dz : Nat} {st st' : List Value} (hd : decode cc pc = .ok (ins, n)) (hnm : ∀ i d, ins ≠ .multianewarray i d) (h : sNw cn ins st hp = some (n, st', hp', dc, dz)) (hcells : cells + dc ≤ R.cells) (hslots : slots + dz ≤ R.slots)
    (k : ∀ (H1 : Heap), va_P D vwCl (pw ρ cy base hp') H1 → va_S (fun q => base ≤ q) s.heap H1 locs → W p l e R s m args below meth c H1 locs (cells + dc) (slots + dz) Q (F0 m (pc + n) ls (st'.map (pv ρ)))) : W p l e R s m args below meth c H locs cells slots Q (F0 m pc ls (st.map (pv ρ))) := by
  have hDD := pw_D (ρ := ρ) (cy := cy) (base := base) hp
  have hA : ∀ q : Nat, s.heap.size ≤ q → base ≤ q := fun q h => Nat.le_trans hbs h
  cases ins with
  | new idx =>
    obtain ⟨ci, hz, rfl, rfl, rfl, rfl, rfl⟩ := znw_s h
    obtain ⟨h14, hw⟩ := zcls_ok hz
    obtain ⟨c1, c2, c3, c4⟩ := zcl h14
    obtain ⟨i1, i2⟩ := zii h14
    refine va_new (D := D) (ci := ci) (fs := zdef ci) hx hb hts c2 (zty ci) c3 hown (hts _ hw) (hts _ i1) (hts _ i2) hK hP hDD hS hA c1 (fun j hj => zdef_get hj) hcells hslots hd (fun q H1 h1 h2 h3 => ?_)
    intro T hT X
    have hq : q = base + hp.length := zfresh h1 h2 (by have := X.heapSize; rw [hT] at this; omega)
    subst hq
    have hpe : pe ρ cy (.inr (ci, zdef ci)) = .inr (ci, zdef ci) := by
      show (.inr (ci, (zdef ci).map (pv ρ)) : va_E) = _
      rw [zdef_pv]
    have h4 : va_P D vwCl (pw ρ cy base (hp ++ [.inr (ci, zdef ci)])) H1 := by rw [pw_app, hpe]; exact h1
    have k2 := k H1 h4 h3
    rw [List.map_cons, show pv ρ (.ref (zE + hp.length)) = .ref (base + hp.length) from congrArg Value.ref (hρ_new hρ hp.length)] at k2
    exact k2 T hT X
  | newarray t =>
    obtain ⟨kk, r, a, rfl, ha, h0, hb8, rfl, rfl, rfl, rfl, rfl⟩ := zna_s h
    have key : ∀ (t0 : Nat) (ty : FieldType) (a0 : vp_A), a = (t0, a0) → (∀ c9 : ClassId, vp_cell c9 a0 = arrV c9 kk.toNatClampNeg (fun _ => defaultValue ty)) → pa ρ a0 = a0 → newarray.typeOf t = ty → (Cond.arrayClass ty) ∈ zWS → kk.toNatClampNeg * componentBytes ty ≤ 536870912 → (zTys cy)[t0]? = some (cy t0, ty) → (∀ C, ty ≠ .object C) →
        W p l e R s m args below meth c H locs cells slots Q (F0 m pc ls ((Value.int kk :: r).map (pv ρ))) := by
      intro t0 ty a0 ha0 hcell hpa hty hw hby ht0 hno
      refine va_newa (D := D) (a0 := a0) hx hb (by rw [hty]; exact hts _ hw) hty hK hP hDD hS hA hcell h0 rfl hby hcells hslots hd (fun q cA H1 hK1 h1 h2 h3 => ?_)
      intro T hT X
      have hq : q = base + hp.length := zfresh h1 h2 (by have := X.heapSize; rw [hT] at this; omega)
      subst hq
      have e1 : va_RA s (cy t0) ty := (hK.2 t0 _ ht0).2
      have e2 : va_RA s cA ty := (hK1.2 (zTys cy).length (cA, ty) (by simp)).2
      have hcA : cA = cy t0 := by
        cases ty with
        | object C => exact absurd rfl (hno C)
        | _ => exact Option.some.inj (e2.symm.trans e1)
      subst hcA
      have hpe : pe ρ cy (.inl a) = .inl (cy t0, a0) := by
        rw [ha0]
        show (.inl (cy t0, pa ρ a0) : va_E) = _
        rw [hpa]
      have h4 : va_P D vwCl (pw ρ cy base (hp ++ [.inl a])) H1 := by rw [pw_app, hpe]; exact h1
      have k2 := k H1 h4 h3
      rw [List.map_cons, show pv ρ (.ref (zE + hp.length)) = .ref (base + hp.length) from congrArg Value.ref (hρ_new hρ hp.length)] at k2
      exact k2 T hT X
    cases t with
    | int => cases ha; exact key 0 .int _ rfl (fun _ => rfl) rfl rfl zac_int (by simp only [componentBytes]; omega) rfl (fun C => by intro h; cases h)
    | byte => cases ha; exact key 1 .byte _ rfl (fun _ => rfl) rfl rfl zac_byte (by simp only [componentBytes]; omega) rfl (fun C => by intro h; cases h)
    | boolean => cases ha; exact key 2 .boolean _ rfl (fun _ => rfl) rfl rfl zac_boolean (by simp only [componentBytes]; omega) rfl (fun C => by intro h; cases h)
    | long => cases ha; exact key 3 .long _ rfl (fun _ => rfl) rfl rfl zac_long (by simp only [componentBytes]; omega) rfl (fun C => by intro h; cases h)
    | _ => cases ha
  | anewarray idx =>
    obtain ⟨kk, r, rfl, hz, h0, hb8, rfl, rfl, rfl, rfl, rfl⟩ := znq_s h
    obtain ⟨h14, hw⟩ := zcls_ok hz
    refine va_newq (D := D) (C := RX8) hx hb hown (hts _ hw) hAO hK hP hDD hS hA h0 rfl (by omega) hcells hslots hd (fun q cA H1 hK1 h1 h2 h3 => ?_)
    intro T hT X
    have hq : q = base + hp.length := zfresh h1 h2 (by have := X.heapSize; rw [hT] at this; omega)
    subst hq
    obtain ⟨k1, m1, -, -, -, e1⟩ := (hK.2 4 _ rfl).2
    obtain ⟨k2, m2, -, -, -, e2⟩ := (hK1.2 (zTys cy).length (cA, .object RX8) (by simp)).2
    have hcA : cA = cy 4 := Option.some.inj (e2.symm.trans e1)
    subst hcA
    have h4 : va_P D vwCl (pw ρ cy base (hp ++ [.inl (4, (kk.toNatClampNeg, .inr (.inr (.inr (.inr (fun _ => none))))))])) H1 := by rw [pw_app]; exact h1
    have k2 := k H1 h4 h3
    rw [List.map_cons, show pv ρ (.ref (zE + hp.length)) = .ref (base + hp.length) from congrArg Value.ref (hρ_new hρ hp.length)] at k2
    exact k2 T hT X
  | multianewarray i d => exact absurd rfl (hnm i d)
  | _ => have h2 : (none : Option (Nat × List Value × List PE × Nat × Nat)) = some (n, st', hp', dc, dz) := h; cases h2
end ZM3
