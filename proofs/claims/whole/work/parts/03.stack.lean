/-! A small machine of my own over abstract heaps, and that the given one follows it. Part 1: values, heaps, the operand stack, the locals, branches -/
/-- abstract addresses from here on are the places of the pool, those below are what lies outside -/
def zE : Nat := 1000
abbrev PE : Type := (Nat × vp_A) ⊕ (Nat × List Value)
def pv (ρ : Nat → Nat) (v : Value) : Value := match v with
  | .ref a => .ref (ρ a)
  | x => x
def pa (ρ : Nat → Nat) (a : vp_A) : vp_A := (a.1, match a.2 with
  | .inr (.inr (.inr (.inr f))) => .inr (.inr (.inr (.inr (fun j => (f j).map ρ))))
  | x => x)
def pe (ρ : Nat → Nat) (cy : Nat → ClassId) (x : PE) : va_E := match x with
  | .inl (t, a) => .inl (cy t, pa ρ a)
  | .inr (ci, fs) => .inr (ci, fs.map (pv ρ))
def pw (ρ : Nat → Nat) (cy : Nat → ClassId) : Nat → List PE → va_W
  | _, [] => []
  | b, x :: xs => (b, pe ρ cy x) :: pw ρ cy (b + 1) xs
theorem pw_get {ρ : Nat → Nat} {cy : Nat → ClassId} : ∀ (h : List PE) (b i : Nat), (pw ρ cy b h)[i]? = (h[i]?).map (fun x => (b + i, pe ρ cy x))
  | [], b, i => by simp [pw]
  | x :: xs, b, 0 => by simp [pw]
  | x :: xs, b, i + 1 => by
    simp only [pw, List.getElem?_cons_succ]
    rw [pw_get xs (b + 1) i, show b + 1 + i = b + (i + 1) by omega]
theorem pw_len {ρ : Nat → Nat} {cy : Nat → ClassId} : ∀ (h : List PE) (b : Nat), (pw ρ cy b h).length = h.length
  | [], b => rfl
  | x :: xs, b => by simp [pw, pw_len xs]
theorem pw_set {ρ : Nat → Nat} {cy : Nat → ClassId} : ∀ (h : List PE) (b i : Nat) (x : PE), (pw ρ cy b h).set i (b + i, pe ρ cy x) = pw ρ cy b (h.set i x)
  | [], b, i, x => by simp [pw]
  | y :: ys, b, 0, x => by simp [pw]
  | y :: ys, b, i + 1, x => by
    simp only [pw, List.set_cons_succ]
    rw [show b + (i + 1) = b + 1 + i by omega, pw_set ys (b + 1) i x]
theorem pw_app {ρ : Nat → Nat} {cy : Nat → ClassId} : ∀ (h : List PE) (b : Nat) (x : PE), pw ρ cy b (h ++ [x]) = pw ρ cy b h ++ [(b + h.length, pe ρ cy x)]
  | [], b, x => by simp [pw]
  | y :: ys, b, x => by
    simp only [pw, List.cons_append, List.length_cons]
    rw [pw_app ys (b + 1) x, show b + (ys.length + 1) = b + 1 + ys.length by omega]
theorem pv_cat (ρ : Nat → Nat) (v : Value) : (pv ρ v).category = v.category := by cases v <;> rfl
theorem pv_cats (ρ : Nat → Nat) (st : List Value) : ((st.map (pv ρ)).map fun v => v.category) = st.map fun v => v.category := by
  rw [List.map_map]
  exact List.map_congr_left fun v _ => pv_cat ρ v
/-- the locals -/
def lget (lv : List (Nat × Value)) (i : Nat) : Option Value := (lv.find? (fun q => q.1 == i)).map (fun q => q.2)
def lput1 (lv : List (Nat × Value)) (i : Nat) (v : Value) : List (Nat × Value) := (i, v) :: lv.filter (fun q => !(q.1 == i) && !(q.1 + 1 == i && q.2.category == 2))
def lput2 (lv : List (Nat × Value)) (i : Nat) (v : Value) : List (Nat × Value) := (i, v) :: lv.filter (fun q => !(q.1 == i) && (!(q.1 == i + 1) && !(q.1 + 1 == i && q.2.category == 2)))
def plv (ρ : Nat → Nat) (lv : List (Nat × Value)) : List (Nat × Value) := lv.map (fun q => (q.1, pv ρ q.2))
theorem lget_mem {lv : List (Nat × Value)} {i : Nat} {v : Value} (h : lget lv i = some v) : (i, v) ∈ lv := by
  unfold lget at h
  cases hf : lv.find? (fun q => q.1 == i) with
  | none => rw [hf] at h; cases h
  | some q =>
    rw [hf] at h
    have h1 : q.2 = v := Option.some.inj h
    have h2 := List.find?_some hf
    have h3 := List.mem_of_find?_eq_some hf
    have h4 : q.1 = i := by simpa using h2
    rw [← h1, ← h4]
    exact h3
theorem plv_mem {ρ : Nat → Nat} {lv : List (Nat × Value)} {i : Nat} {v : Value} (h : (i, v) ∈ lv) : (i, pv ρ v) ∈ plv ρ lv := List.mem_map.mpr ⟨(i, v), h, rfl⟩
theorem plv_get {ρ : Nat → Nat} {ls : Array Slot} {nL : Nat} {lv : List (Nat × Value)} {i : Nat} {v : Value} (hl : lv_has ls nL (plv ρ lv)) (h : lget lv i = some v) : ls[i]? = some (.val (pv ρ v)) := hl.2.2 (i, pv ρ v) (plv_mem (lget_mem h))
theorem plv_put1 (ρ : Nat → Nat) (lv : List (Nat × Value)) (i : Nat) (v : Value) : (i, pv ρ v) :: (plv ρ lv).filter (fun q => !(q.1 == i) && !(q.1 + 1 == i && q.2.category == 2)) = plv ρ (lput1 lv i v) := by
  unfold plv lput1
  rw [List.map_cons, List.filter_map]
  congr 3
  funext q
  simp [Function.comp, pv_cat]
theorem plv_put2 (ρ : Nat → Nat) (lv : List (Nat × Value)) (i : Nat) (v : Value) : (i, pv ρ v) :: (plv ρ lv).filter (fun q => !(q.1 == i) && (!(q.1 == i + 1) && !(q.1 + 1 == i && q.2.category == 2))) = plv ρ (lput2 lv i v) := by
  unfold plv lput2
  rw [List.map_cons, List.filter_map]
  congr 3
  funext q
  simp [Function.comp, pv_cat]
/-- instructions on the operand stack alone: the length of the instruction, the stack behind it -/
def zb2 (f : Int32 → Int32 → Int32) (st : List Value) : Option (Nat × List Value) := match st with
  | .int y :: .int x :: r => some (1, .int (f x y) :: r)
  | _ => none
def zd2 (f : Int32 → Int32 → Int32) (st : List Value) : Option (Nat × List Value) := match st with
  | .int y :: .int x :: r => if y = 0 then none else some (1, .int (f x y) :: r)
  | _ => none
def zb1 (f : Int32 → Int32) (st : List Value) : Option (Nat × List Value) := match st with
  | .int x :: r => some (1, .int (f x) :: r)
  | _ => none
def zl2 (f : Int64 → Int64 → Int64) (st : List Value) : Option (Nat × List Value) := match st with
  | .long y :: .long x :: r => some (1, .long (f x y) :: r)
  | _ => none
def zm2 (f : Int64 → Int64 → Int64) (st : List Value) : Option (Nat × List Value) := match st with
  | .long y :: .long x :: r => if y = 0 then none else some (1, .long (f x y) :: r)
  | _ => none
def zl1 (f : Int64 → Int64) (st : List Value) : Option (Nat × List Value) := match st with
  | .long x :: r => some (1, .long (f x) :: r)
  | _ => none
def zs2 (f : Int64 → Int32 → Int64) (st : List Value) : Option (Nat × List Value) := match st with
  | .int y :: .long x :: r => some (1, .long (f x y) :: r)
  | _ => none
theorem zb2_s {f : Int32 → Int32 → Int32} {st st' : List Value} {n : Nat} (h : zb2 f st = some (n, st')) : ∃ x y r, st = .int y :: .int x :: r ∧ n = 1 ∧ st' = .int (f x y) :: r := by
  unfold zb2 at h
  split at h
  · cases h; exact ⟨_, _, _, rfl, rfl, rfl⟩
  · cases h
theorem zd2_s {f : Int32 → Int32 → Int32} {st st' : List Value} {n : Nat} (h : zd2 f st = some (n, st')) : ∃ x y r, st = .int y :: .int x :: r ∧ n = 1 ∧ st' = .int (f x y) :: r ∧ ¬ y = 0 := by
  unfold zd2 at h
  split at h
  · split at h
    · cases h
    · cases h; exact ⟨_, _, _, rfl, rfl, rfl, by assumption⟩
  · cases h
theorem zb1_s {f : Int32 → Int32} {st st' : List Value} {n : Nat} (h : zb1 f st = some (n, st')) : ∃ x r, st = .int x :: r ∧ n = 1 ∧ st' = .int (f x) :: r := by
  unfold zb1 at h
  split at h
  · cases h; exact ⟨_, _, rfl, rfl, rfl⟩
  · cases h
theorem zl2_s {f : Int64 → Int64 → Int64} {st st' : List Value} {n : Nat} (h : zl2 f st = some (n, st')) : ∃ x y r, st = .long y :: .long x :: r ∧ n = 1 ∧ st' = .long (f x y) :: r := by
  unfold zl2 at h
  split at h
  · cases h; exact ⟨_, _, _, rfl, rfl, rfl⟩
  · cases h
theorem zm2_s {f : Int64 → Int64 → Int64} {st st' : List Value} {n : Nat} (h : zm2 f st = some (n, st')) : ∃ x y r, st = .long y :: .long x :: r ∧ n = 1 ∧ st' = .long (f x y) :: r ∧ ¬ y = 0 := by
  unfold zm2 at h
  split at h
  · split at h
    · cases h
    · cases h; exact ⟨_, _, _, rfl, rfl, rfl, by assumption⟩
  · cases h
theorem zl1_s {f : Int64 → Int64} {st st' : List Value} {n : Nat} (h : zl1 f st = some (n, st')) : ∃ x r, st = .long x :: r ∧ n = 1 ∧ st' = .long (f x) :: r := by
  unfold zl1 at h
  split at h
  · cases h; exact ⟨_, _, rfl, rfl, rfl⟩
  · cases h
theorem zs2_s {f : Int64 → Int32 → Int64} {st st' : List Value} {n : Nat} (h : zs2 f st = some (n, st')) : ∃ x y r, st = .int y :: .long x :: r ∧ n = 1 ∧ st' = .long (f x y) :: r := by
  unfold zs2 at h
  split at h
  · cases h; exact ⟨_, _, _, rfl, rfl, rfl⟩
  · cases h
def zi2l (st : List Value) : Option (Nat × List Value) := match st with
  | .int x :: r => some (1, .long x.toInt64 :: r)
  | _ => none
def zl2i (st : List Value) : Option (Nat × List Value) := match st with
  | .long x :: r => some (1, .int x.toInt32 :: r)
  | _ => none
def zlcmp (st : List Value) : Option (Nat × List Value) := match st with
  | .long y :: .long x :: r => some (1, .int (lg_cmp x y) :: r)
  | _ => none
theorem zi2l_s {st st' : List Value} {n : Nat} (h : zi2l st = some (n, st')) : ∃ x r, st = .int x :: r ∧ n = 1 ∧ st' = .long x.toInt64 :: r := by
  unfold zi2l at h
  split at h
  · cases h; exact ⟨_, _, rfl, rfl, rfl⟩
  · cases h
theorem zl2i_s {st st' : List Value} {n : Nat} (h : zl2i st = some (n, st')) : ∃ x r, st = .long x :: r ∧ n = 1 ∧ st' = .int x.toInt32 :: r := by
  unfold zl2i at h
  split at h
  · cases h; exact ⟨_, _, rfl, rfl, rfl⟩
  · cases h
theorem zlcmp_s {st st' : List Value} {n : Nat} (h : zlcmp st = some (n, st')) : ∃ x y r, st = .long y :: .long x :: r ∧ n = 1 ∧ st' = .int (lg_cmp x y) :: r := by
  unfold zlcmp at h
  split at h
  · cases h; exact ⟨_, _, _, rfl, rfl, rfl⟩
  · cases h
def zdup (st : List Value) : Option (Nat × List Value) := match st with
  | v :: r => if v.category = 1 then some (1, v :: v :: r) else none
  | _ => none
def zdupx1 (st : List Value) : Option (Nat × List Value) := match st with
  | v :: w :: r => if v.category = 1 ∧ w.category = 1 then some (1, v :: w :: v :: r) else none
  | _ => none
def zdup2 (st : List Value) : Option (Nat × List Value) := match st with
  | v :: w :: r => if v.category = 1 ∧ w.category = 1 then some (1, v :: w :: v :: w :: r) else none
  | _ => none
def zpop (st : List Value) : Option (Nat × List Value) := match st with
  | v :: r => if v.category = 1 then some (1, r) else none
  | _ => none
theorem zdup_s {st st' : List Value} {n : Nat} (h : zdup st = some (n, st')) : ∃ v r, st = v :: r ∧ n = 1 ∧ st' = v :: v :: r ∧ v.category = 1 := by
  unfold zdup at h
  split at h
  · split at h
    · cases h; exact ⟨_, _, rfl, rfl, rfl, by assumption⟩
    · cases h
  · cases h
theorem zdupx1_s {st st' : List Value} {n : Nat} (h : zdupx1 st = some (n, st')) : ∃ v w r, st = v :: w :: r ∧ n = 1 ∧ st' = v :: w :: v :: r ∧ v.category = 1 ∧ w.category = 1 := by
  unfold zdupx1 at h
  split at h
  · split at h
    · cases h; exact ⟨_, _, _, rfl, rfl, rfl, by assumption⟩
    · cases h
  · cases h
theorem zdup2_s {st st' : List Value} {n : Nat} (h : zdup2 st = some (n, st')) : ∃ v w r, st = v :: w :: r ∧ n = 1 ∧ st' = v :: w :: v :: w :: r ∧ v.category = 1 ∧ w.category = 1 := by
  unfold zdup2 at h
  split at h
  · split at h
    · cases h; exact ⟨_, _, _, rfl, rfl, rfl, by assumption⟩
    · cases h
  · cases h
theorem zpop_s {st st' : List Value} {n : Nat} (h : zpop st = some (n, st')) : ∃ v r, st = v :: r ∧ n = 1 ∧ st' = r ∧ v.category = 1 := by
  unfold zpop at h
  split at h
  · split at h
    · cases h; exact ⟨_, _, rfl, rfl, rfl, by assumption⟩
    · cases h
  · cases h
def sStk (ins : Instr) (st : List Value) : Option (Nat × List Value) := match ins with
  | .iconst n => some (1, .int (Int32.ofInt n) :: st)
  | .bipush n => some (2, .int (Int8.ofInt n).toInt32 :: st)
  | .sipush n => some (3, .int (Int16.ofInt n).toInt32 :: st)
  | .lconst n => some (1, .long (Int64.ofNat (n : Nat)) :: st)
  | .aconst_null => some (1, .null :: st)
  | .iadd => zb2 (fun x y => x + y) st
  | .isub => zb2 (fun x y => x - y) st
  | .imul => zb2 (fun x y => x * y) st
  | .iand => zb2 (fun x y => x &&& y) st
  | .ior => zb2 (fun x y => x ||| y) st
  | .ixor => zb2 (fun x y => x ^^^ y) st
  | .ishl => zb2 (fun x y => x <<< (y &&& 31)) st
  | .ishr => zb2 (fun x y => x >>> (y &&& 31)) st
  | .idiv => zd2 (fun x y => x / y) st
  | .irem => zd2 (fun x y => x - x / y * y) st
  | .ineg => zb1 (fun x => -x) st
  | .i2b => zb1 (fun x => x.toInt8.toInt32) st
  | .i2c => zb1 (fun x => (x.toUInt32 % 65536).toInt32) st
  | .i2l => zi2l st
  | .l2i => zl2i st
  | .ladd => zl2 (fun x y => x + y) st
  | .lsub => zl2 (fun x y => x - y) st
  | .lmul => zl2 (fun x y => x * y) st
  | .land => zl2 (fun x y => x &&& y) st
  | .lor => zl2 (fun x y => x ||| y) st
  | .ldiv => zm2 (fun x y => x / y) st
  | .lrem => zm2 (fun x y => x - x / y * y) st
  | .lneg => zl1 (fun x => -x) st
  | .lshl => zs2 (fun x y => x <<< (y.toInt64 &&& 63)) st
  | .lushr => zs2 (fun x y => (x.toUInt64 >>> (y.toInt64.toUInt64 &&& Int64.toUInt64 63)).toInt64) st
  | .lcmp => zlcmp st
  | .dup => zdup st
  | .dup_x1 => zdupx1 st
  | .dup2 => zdup2 st
  | .pop => zpop st
  | _ => none
section ZM1
variable {p : Program} {l : Launch} {e : Env} {R : Room} {s : State} {m : MethodId} {args : Array Value} {below : List Frame} {meth : Method} {c : Code} {H : Heap} {locs : List Loc} {cells slots : Nat} {Q : State → Prop}
variable {cc : ByteArray} {pc : Nat} {ls : Array Slot} {ρ : Nat → Nat}
set_option maxHeartbeats 4000000 in
theorem sStk_ok (hx : p.tables.exec = Jvm.exec) (hb : c.code = cc) {ins : Instr} {st st' : List Value} {n : Nat} (hd : decode cc pc = .ok (ins, n)) (h : sStk ins st = some (n, st'))
    (k : W p l e R s m args below meth c H locs cells slots Q (F0 m (pc + n) ls (st'.map (pv ρ)))) : W p l e R s m args below meth c H locs cells slots Q (F0 m pc ls (st.map (pv ρ))) := by
  cases ins with
  | iconst i => cases h; exact lv_iconst hx hb hd rfl k
  | bipush i => cases h; exact lv_bipush hx hb hd rfl k
  | sipush i => cases h; exact lv_sipush hx hb hd rfl k
  | lconst i => cases h; exact lv_lconst hx hb hd rfl k
  | aconst_null => cases h; exact lv_null hx hb hd k
  | iadd => obtain ⟨x, y, r, rfl, rfl, rfl⟩ := zb2_s h; exact lv_iadd hx hb hd k
  | isub => obtain ⟨x, y, r, rfl, rfl, rfl⟩ := zb2_s h; exact lv_isub hx hb hd k
  | imul => obtain ⟨x, y, r, rfl, rfl, rfl⟩ := zb2_s h; exact lv_imul hx hb hd k
  | iand => obtain ⟨x, y, r, rfl, rfl, rfl⟩ := zb2_s h; exact lv_iand hx hb hd k
  | ior => obtain ⟨x, y, r, rfl, rfl, rfl⟩ := zb2_s h; exact lv_ior hx hb hd k
  | ixor => obtain ⟨x, y, r, rfl, rfl, rfl⟩ := zb2_s h; exact lv_ixor hx hb hd k
  | ishl => obtain ⟨x, y, r, rfl, rfl, rfl⟩ := zb2_s h; exact lv_ishl hx hb hd k
  | ishr => obtain ⟨x, y, r, rfl, rfl, rfl⟩ := zb2_s h; exact lv_ishr hx hb hd k
  | idiv => obtain ⟨x, y, r, rfl, rfl, rfl, h0⟩ := zd2_s h; exact lv_idiv hx hb hd h0 k
  | irem => obtain ⟨x, y, r, rfl, rfl, rfl, h0⟩ := zd2_s h; exact lv_irem hx hb hd h0 k
  | ineg => obtain ⟨x, r, rfl, rfl, rfl⟩ := zb1_s h; exact lv_ineg hx hb hd k
  | i2b => obtain ⟨x, r, rfl, rfl, rfl⟩ := zb1_s h; exact lv_i2b hx hb hd rfl k
  | i2c => obtain ⟨x, r, rfl, rfl, rfl⟩ := zb1_s h; exact lv_i2c hx hb hd rfl k
  | i2l => obtain ⟨x, r, rfl, rfl, rfl⟩ := zi2l_s h; exact lv_i2l hx hb hd rfl k
  | l2i => obtain ⟨x, r, rfl, rfl, rfl⟩ := zl2i_s h; exact lv_l2i hx hb hd rfl k
  | ladd => obtain ⟨x, y, r, rfl, rfl, rfl⟩ := zl2_s h; exact lv_ladd hx hb hd k
  | lsub => obtain ⟨x, y, r, rfl, rfl, rfl⟩ := zl2_s h; exact lv_lsub hx hb hd k
  | lmul => obtain ⟨x, y, r, rfl, rfl, rfl⟩ := zl2_s h; exact lv_lmul hx hb hd k
  | land => obtain ⟨x, y, r, rfl, rfl, rfl⟩ := zl2_s h; exact lv_land hx hb hd k
  | lor => obtain ⟨x, y, r, rfl, rfl, rfl⟩ := zl2_s h; exact lv_lor hx hb hd k
  | ldiv => obtain ⟨x, y, r, rfl, rfl, rfl, h0⟩ := zm2_s h; exact lv_ldiv hx hb hd h0 k
  | lrem => obtain ⟨x, y, r, rfl, rfl, rfl, h0⟩ := zm2_s h; exact lv_lrem hx hb hd h0 k
  | lneg => obtain ⟨x, r, rfl, rfl, rfl⟩ := zl1_s h; exact lv_lneg hx hb hd k
  | lshl => obtain ⟨x, y, r, rfl, rfl, rfl⟩ := zs2_s h; exact lv_lshl hx hb hd rfl k
  | lushr => obtain ⟨x, y, r, rfl, rfl, rfl⟩ := zs2_s h; exact lv_lushr hx hb hd rfl k
  | lcmp => obtain ⟨x, y, r, rfl, rfl, rfl⟩ := zlcmp_s h; exact W.lcmp hx hb hd k
  | dup => obtain ⟨v, r, rfl, rfl, rfl, h1⟩ := zdup_s h; exact lv_dup hx hb hd ((pv_cat ρ v).trans h1) k
  | dup_x1 => obtain ⟨v, w, r, rfl, rfl, rfl, h1, h2⟩ := zdupx1_s h; exact lv_dup_x1 hx hb hd ((pv_cat ρ v).trans h1) ((pv_cat ρ w).trans h2) k
  | dup2 => obtain ⟨v, w, r, rfl, rfl, rfl, h1, h2⟩ := zdup2_s h; exact lv_dup2_11 hx hb hd ((pv_cat ρ v).trans h1) ((pv_cat ρ w).trans h2) k
  | pop => obtain ⟨v, r, rfl, rfl, rfl, h1⟩ := zpop_s h; exact lv_pop hx hb hd ((pv_cat ρ v).trans h1) k
  | _ => have h2 : (none : Option (Nat × List Value)) = some (n, st') := h; cases h2
/-- loads of locals -/
def zldI (n : Nat) (lv : List (Nat × Value)) (i : Nat) (st : List Value) : Option (Nat × List Value) := match lget lv i with
  | some (.int x) => some (n, .int x :: st)
  | _ => none
def zldJ (n : Nat) (lv : List (Nat × Value)) (i : Nat) (st : List Value) : Option (Nat × List Value) := match lget lv i with
  | some (.long x) => some (n, .long x :: st)
  | _ => none
def zldA (n : Nat) (lv : List (Nat × Value)) (i : Nat) (st : List Value) : Option (Nat × List Value) := match lget lv i with
  | some (.ref x) => some (n, .ref x :: st)
  | some .null => some (n, .null :: st)
  | _ => none
def sLd (ins : Instr) (lv : List (Nat × Value)) (st : List Value) : Option (Nat × List Value) := match ins with
  | .iload_n k => zldI 1 lv k st
  | .iload i => zldI 2 lv i st
  | .lload_n k => zldJ 1 lv k st
  | .lload i => zldJ 2 lv i st
  | .aload_n k => zldA 1 lv k st
  | .aload i => zldA 2 lv i st
  | _ => none
theorem zldI_s {n n' i : Nat} {lv : List (Nat × Value)} {st st' : List Value} (h : zldI n lv i st = some (n', st')) : ∃ x, lget lv i = some (.int x) ∧ n' = n ∧ st' = .int x :: st := by
  unfold zldI at h
  split at h
  · cases h; exact ⟨_, by assumption, rfl, rfl⟩
  · cases h
theorem zldJ_s {n n' i : Nat} {lv : List (Nat × Value)} {st st' : List Value} (h : zldJ n lv i st = some (n', st')) : ∃ x, lget lv i = some (.long x) ∧ n' = n ∧ st' = .long x :: st := by
  unfold zldJ at h
  split at h
  · cases h; exact ⟨_, by assumption, rfl, rfl⟩
  · cases h
theorem zldA_s {n n' i : Nat} {lv : List (Nat × Value)} {st st' : List Value} (h : zldA n lv i st = some (n', st')) : (∃ x, lget lv i = some (.ref x) ∧ n' = n ∧ st' = .ref x :: st) ∨ (lget lv i = some .null ∧ n' = n ∧ st' = .null :: st) := by
  unfold zldA at h
  split at h
  · cases h; exact Or.inl ⟨_, by assumption, rfl, rfl⟩
  · cases h; exact Or.inr ⟨by assumption, rfl, rfl⟩
  · cases h
set_option maxHeartbeats 4000000 in
theorem sLd_ok (hx : p.tables.exec = Jvm.exec) (hb : c.code = cc) {ins : Instr} {nL : Nat} {lv : List (Nat × Value)} (hl : lv_has ls nL (plv ρ lv)) {st st' : List Value} {n : Nat} (hd : decode cc pc = .ok (ins, n)) (h : sLd ins lv st = some (n, st'))
    (k : W p l e R s m args below meth c H locs cells slots Q (F0 m (pc + n) ls (st'.map (pv ρ)))) : W p l e R s m args below meth c H locs cells slots Q (F0 m pc ls (st.map (pv ρ))) := by
  cases ins with
  | iload_n i => obtain ⟨x, h1, rfl, rfl⟩ := zldI_s h; exact lv_iload_n hx hb hd rfl (plv_get hl h1) k
  | iload i => obtain ⟨x, h1, rfl, rfl⟩ := zldI_s h; exact lv_iload hx hb hd (plv_get hl h1) k
  | lload_n i => obtain ⟨x, h1, rfl, rfl⟩ := zldJ_s h; exact lv_lload_n hx hb hd rfl (plv_get hl h1) k
  | lload i => obtain ⟨x, h1, rfl, rfl⟩ := zldJ_s h; exact lv_lload hx hb hd (plv_get hl h1) k
  | aload_n i =>
    rcases zldA_s h with ⟨x, h1, rfl, rfl⟩ | ⟨h1, rfl, rfl⟩
    · exact lv_aload_n hx hb hd rfl (plv_get hl h1) k
    · exact lv_aload_nN hx hb hd rfl (plv_get hl h1) k
  | aload i =>
    rcases zldA_s h with ⟨x, h1, rfl, rfl⟩ | ⟨h1, rfl, rfl⟩
    · exact lv_aload hx hb hd (plv_get hl h1) k
    · exact lv_aloadN hx hb hd (plv_get hl h1) k
  | _ => have h2 : (none : Option (Nat × List Value)) = some (n, st') := h; cases h2
/-- stores into locals -/
def zstI (n nL : Nat) (lv : List (Nat × Value)) (i : Nat) (st : List Value) : Option (Nat × List (Nat × Value) × List Value) := match st with
  | .int x :: r => if i < nL then some (n, lput1 lv i (.int x), r) else none
  | _ => none
def zstJ (n nL : Nat) (lv : List (Nat × Value)) (i : Nat) (st : List Value) : Option (Nat × List (Nat × Value) × List Value) := match st with
  | .long x :: r => if i + 1 < nL then some (n, lput2 lv i (.long x), r) else none
  | _ => none
def zstA (n nL : Nat) (lv : List (Nat × Value)) (i : Nat) (st : List Value) : Option (Nat × List (Nat × Value) × List Value) := match st with
  | .ref x :: r => if i < nL then some (n, lput1 lv i (.ref x), r) else none
  | .null :: r => if i < nL then some (n, lput1 lv i .null, r) else none
  | _ => none
def zinc (nL : Nat) (lv : List (Nat × Value)) (i : Nat) (k : Int) (st : List Value) : Option (Nat × List (Nat × Value) × List Value) := match lget lv i with
  | some (.int x) => if i < nL then some (3, lput1 lv i (.int (x + Int32.ofInt k)), st) else none
  | _ => none
def sSv (ins : Instr) (nL : Nat) (lv : List (Nat × Value)) (st : List Value) : Option (Nat × List (Nat × Value) × List Value) := match ins with
  | .istore_n k => zstI 1 nL lv k st
  | .istore i => zstI 2 nL lv i st
  | .lstore_n k => zstJ 1 nL lv k st
  | .lstore i => zstJ 2 nL lv i st
  | .astore_n k => zstA 1 nL lv k st
  | .astore i => zstA 2 nL lv i st
  | .iinc i k => zinc nL lv i k st
  | _ => none
theorem zstI_s {n n' nL i : Nat} {lv lv' : List (Nat × Value)} {st st' : List Value} (h : zstI n nL lv i st = some (n', lv', st')) : ∃ x, st = .int x :: st' ∧ n' = n ∧ i < nL ∧ lv' = lput1 lv i (.int x) := by
  unfold zstI at h
  split at h
  · split at h
    · cases h; exact ⟨_, rfl, rfl, by assumption, rfl⟩
    · cases h
  · cases h
theorem zstJ_s {n n' nL i : Nat} {lv lv' : List (Nat × Value)} {st st' : List Value} (h : zstJ n nL lv i st = some (n', lv', st')) : ∃ x, st = .long x :: st' ∧ n' = n ∧ i + 1 < nL ∧ lv' = lput2 lv i (.long x) := by
  unfold zstJ at h
  split at h
  · split at h
    · cases h; exact ⟨_, rfl, rfl, by assumption, rfl⟩
    · cases h
  · cases h
theorem zstA_s {n n' nL i : Nat} {lv lv' : List (Nat × Value)} {st st' : List Value} (h : zstA n nL lv i st = some (n', lv', st')) : (∃ x, st = .ref x :: st' ∧ n' = n ∧ i < nL ∧ lv' = lput1 lv i (.ref x)) ∨ (st = .null :: st' ∧ n' = n ∧ i < nL ∧ lv' = lput1 lv i .null) := by
  unfold zstA at h
  split at h
  · split at h
    · cases h; exact Or.inl ⟨_, rfl, rfl, by assumption, rfl⟩
    · cases h
  · split at h
    · cases h; exact Or.inr ⟨rfl, rfl, by assumption, rfl⟩
    · cases h
  · cases h
theorem zinc_s {n' nL i : Nat} {k : Int} {lv lv' : List (Nat × Value)} {st st' : List Value} (h : zinc nL lv i k st = some (n', lv', st')) : ∃ x, lget lv i = some (.int x) ∧ n' = 3 ∧ i < nL ∧ lv' = lput1 lv i (.int (x + Int32.ofInt k)) ∧ st' = st := by
  unfold zinc at h
  split at h
  · split at h
    · cases h; exact ⟨_, by assumption, rfl, by assumption, rfl, rfl⟩
    · cases h
  · cases h
set_option maxHeartbeats 4000000 in
theorem sSv_ok (hx : p.tables.exec = Jvm.exec) (hb : c.code = cc) {ins : Instr} {nL : Nat} {lv lv' : List (Nat × Value)} (hl : lv_has ls nL (plv ρ lv)) {st st' : List Value} {n : Nat} (hd : decode cc pc = .ok (ins, n)) (h : sSv ins nL lv st = some (n, lv', st'))
    (k : ∀ ls' : Array Slot, lv_has ls' nL (plv ρ lv') → W p l e R s m args below meth c H locs cells slots Q (F0 m (pc + n) ls' (st'.map (pv ρ)))) : W p l e R s m args below meth c H locs cells slots Q (F0 m pc ls (st.map (pv ρ))) := by
  cases ins with
  | istore_n i => obtain ⟨x, rfl, rfl, h1, rfl⟩ := zstI_s h; exact lv_istore_n hx hb hd rfl hl h1 (plv_put1 ρ lv i (.int x)) k
  | istore i => obtain ⟨x, rfl, rfl, h1, rfl⟩ := zstI_s h; exact lv_istore hx hb hd hl h1 (plv_put1 ρ lv i (.int x)) k
  | lstore_n i => obtain ⟨x, rfl, rfl, h1, rfl⟩ := zstJ_s h; exact lv_lstore_n hx hb hd rfl hl h1 (plv_put2 ρ lv i (.long x)) k
  | lstore i => obtain ⟨x, rfl, rfl, h1, rfl⟩ := zstJ_s h; exact lv_lstore hx hb hd hl h1 (plv_put2 ρ lv i (.long x)) k
  | astore_n i =>
    rcases zstA_s h with ⟨x, rfl, rfl, h1, rfl⟩ | ⟨rfl, rfl, h1, rfl⟩
    · exact lv_astore_n hx hb hd rfl hl h1 (plv_put1 ρ lv i (.ref x)) k
    · exact lv_astore_nN hx hb hd rfl hl h1 (plv_put1 ρ lv i .null) k
  | astore i =>
    rcases zstA_s h with ⟨x, rfl, rfl, h1, rfl⟩ | ⟨rfl, rfl, h1, rfl⟩
    · exact lv_astore hx hb hd hl h1 (plv_put1 ρ lv i (.ref x)) k
    · exact lv_astoreN hx hb hd hl h1 (plv_put1 ρ lv i .null) k
  | iinc i j =>
    obtain ⟨x, h1, rfl, h2, rfl, rfl⟩ := zinc_s h
    obtain ⟨q, hq⟩ := List.getElem?_of_mem (plv_mem (ρ := ρ) (lget_mem h1))
    exact lv_iinc hx hb hd hl hq rfl h2 (plv_put1 ρ lv i (.int (x + Int32.ofInt j))) k
  | _ => have h2 : (none : Option (Nat × List (Nat × Value) × List Value)) = some (n, lv', st') := h; cases h2
end ZM1
