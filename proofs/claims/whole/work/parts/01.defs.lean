/-! definitions alone, for trials (made by devdefs.py) -/
def zlen : List Nat := [236, 16, 16, 3, 3, 4, 4, 4, 2, 3, 4, 4, 238, 2, 3, 2, 5, 3, 4, 2, 6, 2, 5, 4, 4, 4, 3, 4, 7, 4, 5, 5, 5, 2, 3, 4, 5, 7, 6, 4, 3, 4, 6, 7, 3, 4, 5, 4, 5, 4, 4]
def zmost : List Int32 := [8, 4, 4, 4, 4, 4, 4, 6, 8]
def zbyt : List (List Int32) := [[118, 97, 114, 32, 114, 111, 119, 32, 115, 101, 109, 97, 32, 98, 111, 108, 116, 32, 105, 114, 112, 116, 32, 105, 110, 32, 111, 117, 116, 32, 112, 114, 111, 99, 32, 116, 97, 115, 107, 32, 109, 97, 105, 110, 32, 111, 110, 32, 97, 110, 121, 32, 101, 108, 115, 101, 32, 117, 110, 116, 105, 108, 32, 115, 105, 122, 101, 32, 116, 105, 109, 101, 32, 115, 116, 97, 116, 101, 32, 97, 116, 32, 97, 102, 116, 101, 114, 32, 97, 108, 108, 32, 119, 104, 101, 110, 32, 100, 111, 32, 114, 101, 116, 117, 114, 110, 32, 105, 102, 32, 119, 104, 105, 108, 101, 32, 101, 110, 100, 32, 109, 97, 107, 101, 32, 115, 97, 109, 101, 32, 108, 111, 115, 101, 32, 108, 111, 103, 32, 105, 110, 100, 117, 99, 101, 32, 97, 115, 107, 32, 103, 105, 118, 101, 32, 114, 101, 115, 101, 114, 118, 101, 32, 102, 114, 101, 101, 32, 101, 110, 116, 101, 114, 32, 108, 101, 97, 118, 101, 32, 116, 97, 107, 101, 32, 112, 117, 116, 32, 115, 116, 97, 114, 116, 32, 103, 111, 32, 104, 111, 108, 100, 32, 112, 114, 105, 111, 114, 32, 112, 114, 101, 118, 101, 110, 116, 32, 112, 117, 108, 108, 32, 101, 110, 97, 98, 108, 101, 32, 100, 105, 115, 97, 98, 108, 101], [40, 41, 123, 125, 91, 93, 44, 59, 61, 60, 62, 43, 45, 42, 47, 37], [40, 41, 123, 125, 91, 93, 44, 59, 61, 60, 62, 43, 45, 42, 47, 37], [118, 97, 114], [114, 111, 119], [115, 101, 109, 97], [98, 111, 108, 116], [105, 114, 112, 116], [105, 110], [111, 117, 116], [112, 114, 111, 99], [116, 97, 115, 107], [32, 118, 97, 114, 32, 114, 111, 119, 32, 115, 101, 109, 97, 32, 98, 111, 108, 116, 32, 105, 114, 112, 116, 32, 105, 110, 32, 111, 117, 116, 32, 112, 114, 111, 99, 32, 116, 97, 115, 107, 32, 109, 97, 105, 110, 32, 111, 110, 32, 97, 110, 121, 32, 100, 111, 32, 114, 101, 116, 117, 114, 110, 32, 105, 102, 32, 101, 108, 115, 101, 32, 119, 104, 105, 108, 101, 32, 109, 97, 107, 101, 32, 115, 97, 109, 101, 32, 108, 111, 115, 101, 32, 97, 115, 107, 32, 103, 105, 118, 101, 32, 114, 101, 115, 101, 114, 118, 101, 32, 102, 114, 101, 101, 32, 101, 110, 116, 101, 114, 32, 108, 101, 97, 118, 101, 32, 115, 116, 97, 114, 116, 32, 103, 111, 32, 101, 110, 100, 32, 104, 111, 108, 100, 32, 112, 114, 105, 111, 114, 32, 112, 114, 101, 118, 101, 110, 116, 32, 105, 110, 100, 117, 99, 101, 32, 116, 97, 107, 101, 32, 112, 117, 116, 32, 112, 117, 108, 108, 32, 101, 110, 97, 98, 108, 101, 32, 100, 105, 115, 97, 98, 108, 101, 32, 108, 111, 103, 32, 97, 116, 32, 97, 102, 116, 101, 114, 32, 97, 108, 108, 32, 117, 110, 116, 105, 108, 32, 119, 104, 101, 110, 32, 115, 105, 122, 101, 32, 116, 105, 109, 101, 32, 115, 116, 97, 116, 101, 32], [111, 110], [97, 110, 121], [97, 116], [97, 102, 116, 101, 114], [97, 108, 108], [119, 104, 101, 110], [100, 111], [114, 101, 116, 117, 114, 110], [105, 102], [119, 104, 105, 108, 101], [109, 97, 107, 101], [115, 97, 109, 101], [108, 111, 115, 101], [97, 115, 107], [103, 105, 118, 101], [114, 101, 115, 101, 114, 118, 101], [102, 114, 101, 101], [101, 110, 116, 101, 114], [108, 101, 97, 118, 101], [115, 116, 97, 114, 116], [103, 111], [101, 110, 100], [104, 111, 108, 100], [112, 114, 105, 111, 114], [112, 114, 101, 118, 101, 110, 116], [105, 110, 100, 117, 99, 101], [116, 97, 107, 101], [112, 117, 116], [112, 117, 108, 108], [101, 110, 97, 98, 108, 101], [100, 105, 115, 97, 98, 108, 101], [108, 111, 103], [115, 105, 122, 101], [115, 116, 97, 116, 101], [116, 105, 109, 101], [117, 110, 116, 105, 108], [101, 108, 115, 101], [109, 97, 105, 110]]
def zchr (k j : Nat) : Int32 := (((zbyt.getD k []).getD j 0 &&& (Int16.ofInt 255).toInt32).toUInt32 % 65536).toInt32
def zixL (k : Nat) (b : Int32) : Nat → Nat → Int32
  | 0, _ => -1
  | m + 1, i => if (zbyt.getD k []).getD i 0 = b then nI i else zixL k b m (i + 1)
def zidx (k : Nat) (c : Int32) : Int32 := if c < 0 then -1 else if 255 < c then -1 else zixL k c.toInt8.toInt32 (zlen.getD k 0) 0
def zin? (i : Int32) (n : Nat) : Bool := !(decide (i < 0) || decide (n ≤ i.toNatClampNeg))
abbrev zσ : Type := (Nat → Nat → Int32) × (Nat → Nat → Int64) × (Nat → Nat → Option Nat)
abbrev nx (i : Int32) : Nat := i.toNatClampNeg
def sI (s : zσ) (a k : Nat) (v : Int32) : zσ := (fun b => if b = a then upd (s.1 a) k v else s.1 b, s.2)
def sJ (s : zσ) (a k : Nat) (v : Int64) : zσ := (s.1, fun b => if b = a then vp_updL (s.2.1 a) k v else s.2.1 b, s.2.2)
def sR (s : zσ) (a k : Nat) (v : Option Nat) : zσ := (s.1, s.2.1, fun b => if b = a then va_up (s.2.2 a) k v else s.2.2 b)
def zfil (f : Nat → Int32) (lo hi : Nat) (v : Int32) : Nat → Int32 := fun j => if lo ≤ j ∧ j < hi then v else f j
def sF (s : zσ) (a lo hi : Nat) (v : Int32) : zσ := (fun b => if b = a then zfil (s.1 a) lo hi v else s.1 b, s.2)
def sC (s : zσ) (a0 sp a dp n : Nat) : zσ := (fun b => if b = a then va_cpy (s.1 a0) (s.1 a) sp dp n else s.1 b, s.2)
def zoff (s s2 : zσ) (a : Nat) : Prop := ∀ b, b ≠ a → s2.1 b = s.1 b ∧ s2.2.1 b = s.2.1 b ∧ s2.2.2 b = s.2.2 b
theorem zoff_I {s : zσ} {a k : Nat} {v : Int32} : zoff s (sI s a k v) a := fun b h => ⟨if_neg h, rfl, rfl⟩
theorem zoff_J {s : zσ} {a k : Nat} {v : Int64} : zoff s (sJ s a k v) a := fun b h => ⟨rfl, if_neg h, rfl⟩
theorem zoff_R {s : zσ} {a k : Nat} {v : Option Nat} : zoff s (sR s a k v) a := fun b h => ⟨rfl, rfl, if_neg h⟩
theorem zoff_F {s : zσ} {a lo hi : Nat} {v : Int32} : zoff s (sF s a lo hi v) a := fun b h => ⟨if_neg h, rfl, rfl⟩
theorem zoff_C {s : zσ} {a0 sp a dp n : Nat} : zoff s (sC s a0 sp a dp n) a := fun b h => ⟨if_neg h, rfl, rfl⟩
def zCL (ci : Nat) : List Nat := match ci with
  | 0 => [1089, 1125]
  | 6 => [1079, 1115]
  | 8 => [1036, 1039, 1042, 1045, 1048, 1051, 1054, 1057]
  | 9 => [1060, 1096]
  | 12 => [1134, 1170]
  | _ => []
def zck (ci a : Nat) : Bool := decide (a ∈ zCL ci)
def zlet {α β : Type} (x : α) (k : α → β) : β := k x
def yb1 {α β γ : Type} (o : Option (α × β)) (k : α → β → Option γ) : Option γ := match o with
  | some (a, b) => k a b
  | none => none
def yb0 {β γ : Type} (o : Option β) (k : β → Option γ) : Option γ := match o with
  | some b => k b
  | none => none
def zrd {γ : Type} (ci : Nat) (o : Option Nat) (k : Nat → Option γ) : Option γ := match o with
  | some a => if zck ci a = true then k a else none
  | none => none
def zbo (v : Int32) : Bool := decide (v = 0) || decide (v = 1)
def zrk (a : Nat) : Bool := decide (a ∈ [1062, 1063, 1064, 1065, 1066, 1067, 1068, 1069, 1070, 1098, 1099, 1100, 1101, 1102, 1103, 1104, 1105, 1106])
def zrw {γ : Type} (o : Option Nat) (k : Nat → Option γ) : Option γ := match o with
  | some a => if zrk a = true then k a else none
  | none => none
def zcpo (sp dp n : Int32) (n0 n1 : Nat) : Bool := decide (¬ (n < 0 ∨ dp < 0 ∨ sp < 0)) && decide (nx sp + nx n ≤ n0 ∧ nx dp + nx n ≤ n1)
def zrgo (fr to : Int32) (n : Nat) : Bool := decide (¬ to < fr ∧ ¬ fr < 0 ∧ ¬ nI n < to)
theorem ck0 {a : Nat} (h : zck 0 a = true) : a = 1089 ∨ a = 1125 := by
  have h1 := of_decide_eq_true h
  simpa only [zCL, List.mem_cons, List.not_mem_nil, or_false] using h1
theorem ck6 {a : Nat} (h : zck 6 a = true) : a = 1079 ∨ a = 1115 := by
  have h1 := of_decide_eq_true h
  simpa only [zCL, List.mem_cons, List.not_mem_nil, or_false] using h1
theorem ck8 {a : Nat} (h : zck 8 a = true) : a = 1036 ∨ a = 1039 ∨ a = 1042 ∨ a = 1045 ∨ a = 1048 ∨ a = 1051 ∨ a = 1054 ∨ a = 1057 := by
  have h1 := of_decide_eq_true h
  simpa only [zCL, List.mem_cons, List.not_mem_nil, or_false] using h1
theorem ck9 {a : Nat} (h : zck 9 a = true) : a = 1060 ∨ a = 1096 := by
  have h1 := of_decide_eq_true h
  simpa only [zCL, List.mem_cons, List.not_mem_nil, or_false] using h1
theorem ck12 {a : Nat} (h : zck 12 a = true) : a = 1134 ∨ a = 1170 := by
  have h1 := of_decide_eq_true h
  simpa only [zCL, List.mem_cons, List.not_mem_nil, or_false] using h1
theorem zin?_nI {a n : Nat} (h : a < n) (hn : n < 2 ^ 31) : zin? (nI a) n = true := by
  unfold zin?
  rw [decide_eq_false (nI_pos (by omega)), nI_clamp (by omega), decide_eq_false (Nat.not_le.mpr h)]
  rfl
theorem zsLen {k : Nat} (h : k < 51) : zlen.getD k 0 < 2 ^ 31 := by
  have h1 : (List.range 51).all (fun k => decide (zlen.getD k 0 < 2 ^ 31)) = true := by decide +kernel
  exact of_decide_eq_true (List.all_eq_true.mp h1 k (List.mem_range.mpr h))
def f19_50 (n : Nat) : Nat → Int64 → Int32 → zσ → Option (Int32 × zσ)
  | 0, _, _, _ => none
  | j + 1, x1, x4, s =>
    if x4 < (0 : Int32) then
    some ((s.1 1001 2), s)
    else zlet (sI s 1001 2 ((s.1 1001 2) + (1 : Int32))) fun u1 =>
    if zin? (s.1 1001 2) 4000 = true then
    zlet (sI u1 1002 (nx (s.1 1001 2)) (vp_nar .byte (((((x1).toUInt64 >>> (((8 : Int32) * x4).toInt64.toUInt64 &&& Int64.toUInt64 63)).toInt64).toInt32).toInt8.toInt32))) fun u2 =>
    f19_50 n j x1 (x4 + (-1 : Int32)) u2
    else none
def f19 (n : Nat) (x1 : Int64) (x3 : Int32) (s : zσ) : Option (Int32 × zσ) :=
    if x3 < (0 : Int32) then
    some ((-2 : Int32), s)
    else if (8 : Int32) < x3 then
    some ((-2 : Int32), s)
    else if x3 = (0 : Int32) then
    zlet (sI s 1001 2 (0 : Int32)) fun u2 =>
    some ((0 : Int32), u2)
    else if (4000 : Int32) < ((s.1 1001 2) + x3) then
    some ((-4 : Int32), s)
    else zlet ((x3 - (1 : Int32))) fun v1 =>
    f19_50 n n x1 v1 s
def f24 (n : Nat) (x0 : Nat) (s : zσ) : Option zσ :=
    zlet (sI s x0 9 (0 : Int32)) fun u1 =>
    zlet (sI u1 x0 10 (0 : Int32)) fun u2 =>
    zlet (sI u2 x0 11 (0 : Int32)) fun u3 =>
    some u3
def f26_382 (n : Nat) (r349 : Int32 → Int32 → zσ → Option zσ) (x2 : Int32) (x3 : Int32) (s : zσ) : Option zσ :=
    r349 x2 (x3 + (1 : Int32)) s
def f26_349 (n : Nat) : Nat → Int32 → Int32 → zσ → Option zσ
  | 0, _, _, _ => none
  | j + 1, x2, x3, s =>
    if x2 = (0 : Int32) then
    some s
    else if x3 < (47 : Int32) then
    if zin? x3 47 = true then
    if (s.2.1 1003 (nx x3)) = (s.2.1 1001 7) then
    zlet (sI s 1001 4 ((128 : Int32) + x3)) fun u1 =>
    f26_382 n (f26_349 n j) x2 x3 u1
    else f26_382 n (f26_349 n j) x2 x3 s
    else none
    else some s
def f26_344 (n : Nat) (x2 : Int32) (y0 : Int32) (s : zσ) : Option zσ :=
    zlet (sI s 1001 4 y0) fun u1 =>
    f26_349 n n x2 (0 : Int32) u1
def f26_325 (n : Nat) (x2 : Int32) (y0 : Int32) (y1 : Int32) (s : zσ) : Option zσ :=
    if y0 < y1 then
    zlet (sI s 1001 4 (0 : Int32)) fun u1 =>
    some u1
    else if x2 = (0 : Int32) then
    f26_344 n x2 (2 : Int32) s
    else f26_344 n x2 (1 : Int32) s
def f26_305 (n : Nat) (x2 : Int32) (s : zσ) : Option zσ :=
    if x2 = (0 : Int32) then
    f26_325 n x2 (9 : Int32) ((s.1 1001 3) - (s.1 1001 5)) s
    else f26_325 n x2 (8 : Int32) ((s.1 1001 3) - (s.1 1001 5)) s
def f26_246 (n : Nat) (r175 : Int32 → zσ → Option zσ) (x2 : Int32) (s : zσ) : Option zσ :=
    if zin? (s.1 1001 3) 4000 = true then
    zlet (sJ s 1001 7 (((s.2.1 1001 7) <<< ((8 : Int32).toInt64 &&& 63)) ||| ((s.1 1002 (nx (s.1 1001 3))).toInt64))) fun u1 =>
    if zin? (u1.1 1001 3) 4000 = true then
    zlet (sI u1 1001 6 ((((u1.1 1001 6) * (10 : Int32)) + (u1.1 1002 (nx (u1.1 1001 3)))) - (48 : Int32))) fun u2 =>
    zlet (sI u2 1001 3 ((u2.1 1001 3) + (1 : Int32))) fun u3 =>
    r175 x2 u3
    else none
    else none
def f26_214 (n : Nat) (r175 : Int32 → zσ → Option zσ) (x2 : Int32) (s : zσ) : Option zσ :=
    if x2 = (0 : Int32) then
    f26_305 n x2 s
    else if zin? (s.1 1001 3) 4000 = true then
    if (s.1 1002 (nx (s.1 1001 3))) < (97 : Int32) then
    f26_305 n x2 s
    else if zin? (s.1 1001 3) 4000 = true then
    if (122 : Int32) < (s.1 1002 (nx (s.1 1001 3))) then
    f26_305 n x2 s
    else f26_246 n r175 x2 s
    else none
    else none
def f26_175 (n : Nat) : Nat → Int32 → zσ → Option zσ
  | 0, _, _ => none
  | j + 1, x2, s =>
    if (s.1 1001 3) < (s.1 1001 2) then
    if zin? (s.1 1001 3) 4000 = true then
    if (s.1 1002 (nx (s.1 1001 3))) < (48 : Int32) then
    f26_214 n (f26_175 n j) x2 s
    else if zin? (s.1 1001 3) 4000 = true then
    if (57 : Int32) < (s.1 1002 (nx (s.1 1001 3))) then
    f26_214 n (f26_175 n j) x2 s
    else f26_246 n (f26_175 n j) x2 s
    else none
    else none
    else f26_305 n x2 s
def f26_161 (n : Nat) (x1 : Int32) (x2 : Int32) (s : zσ) : Option zσ :=
    zlet (sJ s 1001 7 (x1.toInt64)) fun u1 =>
    zlet (sI u1 1001 6 (x1 - (48 : Int32))) fun u2 =>
    f26_175 n n x2 u2
def f26_157 (n : Nat) (y0 : Int32) (s : zσ) : Option zσ :=
    zlet (sI s 1001 4 y0) fun u1 =>
    some u1
def f26_141 (n : Nat) (x1 : Int32) (s : zσ) : Option zσ :=
    if (zidx 1 ((x1.toUInt32 % 65536).toInt32)) < (0 : Int32) then
    f26_157 n (0 : Int32) s
    else f26_157 n x1 s
def f26_124 (n : Nat) (x1 : Int32) (y0 : Int32) (s : zσ) : Option zσ :=
    if y0 = (0 : Int32) then
    if x1 < (48 : Int32) then
    f26_141 n x1 s
    else if (57 : Int32) < x1 then
    f26_141 n x1 s
    else f26_161 n x1 y0 s
    else f26_161 n x1 y0 s
def f26_123 (n : Nat) (x1 : Int32) (s : zσ) : Option zσ :=
    f26_124 n x1 (0 : Int32) s
def f26_61 (n : Nat) (s : zσ) : Option zσ :=
    zlet (sI s 1001 5 (s.1 1001 3)) fun u1 =>
    if (u1.1 1001 3) < (u1.1 1001 2) then
    zlet (sI u1 1001 3 ((u1.1 1001 3) + (1 : Int32))) fun u2 =>
    if zin? (u1.1 1001 3) 4000 = true then
    zlet (((u2.1 1002 (nx (u1.1 1001 3))) &&& (255 : Int32))) fun v3 =>
    if v3 < (97 : Int32) then
    f26_123 n v3 u2
    else if (122 : Int32) < v3 then
    f26_123 n v3 u2
    else f26_124 n v3 (1 : Int32) u2
    else none
    else zlet (sI u1 1001 4 (3 : Int32)) fun u4 =>
    some u4
def f26_48 (n : Nat) (r9 : zσ → Option zσ) (s : zσ) : Option zσ :=
    zlet (sI s 1001 3 ((s.1 1001 3) + (1 : Int32))) fun u1 =>
    r9 u1
def f26_9 (n : Nat) : Nat → zσ → Option zσ
  | 0, _ => none
  | j + 1, s =>
    if (s.1 1001 3) < (s.1 1001 2) then
    if zin? (s.1 1001 3) 4000 = true then
    if (s.1 1002 (nx (s.1 1001 3))) = (32 : Int32) then
    f26_48 n (f26_9 n j) s
    else if zin? (s.1 1001 3) 4000 = true then
    if (s.1 1002 (nx (s.1 1001 3))) = (10 : Int32) then
    f26_48 n (f26_9 n j) s
    else f26_61 n s
    else none
    else none
    else f26_61 n s
def f26 (n : Nat) (s : zσ) : Option zσ :=
    if (s.1 1001 4) = (4 : Int32) then
    some s
    else f26_9 n n s
def f25 (n : Nat) (s : zσ) : Option zσ :=
    zlet (sI s 1001 3 (0 : Int32)) fun u1 =>
    zlet (sI u1 1001 4 (3 : Int32)) fun u2 =>
    yb0 (f26 n u2) fun u3 =>
    some u3
def f23 (n : Nat) (s : zσ) : Option zσ :=
    zrd 6 (s.2.2 1004 5) fun a1 =>
    yb0 (f24 n a1 s) fun u2 =>
    zrd 0 (u2.2.2 1004 6) fun a3 =>
    zlet (sI u2 a3 6 (0 : Int32)) fun u4 =>
    zlet (sF u4 1005 0 9 (0 : Int32)) fun u5 =>
    zlet (sI u5 1004 9 (0 : Int32)) fun u6 =>
    zlet (sI u6 1004 8 (0 : Int32)) fun u7 =>
    zlet (sI u7 1004 3 (0 : Int32)) fun u8 =>
    yb0 (f25 n u8) fun u9 =>
    some u9
def f32_27 (n : Nat) (y0 : Int32) (s : zσ) : Option (Int32 × zσ) :=
    zlet (sI s 1004 10 y0) fun u1 =>
    zlet (sI u1 1004 11 (u1.1 1001 5)) fun u2 =>
    zlet (sI u2 1001 4 (4 : Int32)) fun u3 =>
    some ((-1 : Int32), u3)
def f32 (n : Nat) (x1 : Int32) (s : zσ) : Option (Int32 × zσ) :=
    if (s.1 1001 4) = (4 : Int32) then
    some ((-1 : Int32), s)
    else if (s.1 1001 4) = (0 : Int32) then
    f32_27 n (1 : Int32) s
    else f32_27 n x1 s
def f36_3 (n : Nat) : Nat → Nat → Int32 → Int64 → Int32 → zσ → Option (Int32 × zσ)
  | 0, _, _, _, _, _ => none
  | j + 1, x0, x1, x2, x4, s =>
    if zin? x1 9 = true then
    if x4 < (s.1 (x0 + 11) (nx x1)) then
    if zin? x1 9 = true then
    zrw (s.2.2 (x0 + 1) (nx x1)) fun a1 =>
    if zin? x4 8 = true then
    if (s.2.1 a1 (nx x4)) = x2 then
    some (x4, s)
    else f36_3 n j x0 x1 x2 (x4 + (1 : Int32)) s
    else none
    else none
    else some ((-1 : Int32), s)
    else none
def f36 (n : Nat) (x0 : Nat) (x1 : Int32) (x2 : Int64) (s : zσ) : Option (Int32 × zσ) :=
    f36_3 n n x0 x1 x2 (0 : Int32) s
def f35_2 (n : Nat) : Nat → Nat → Int64 → Int32 → zσ → Option (Int32 × zσ)
  | 0, _, _, _, _ => none
  | j + 1, x0, x1, x3, s =>
    if x3 < (9 : Int32) then
    yb1 (f36 n x0 x3 x1 s) fun v2 u1 =>
    if v2 = (-1 : Int32) then
    f35_2 n j x0 x1 (x3 + (1 : Int32)) u1
    else some ((1 : Int32), u1)
    else some ((0 : Int32), s)
def f35 (n : Nat) (x0 : Nat) (x1 : Int64) (s : zσ) : Option (Int32 × zσ) :=
    f35_2 n n x0 x1 (0 : Int32) s
def f34_129 (n : Nat) (x1 : Int32) (x2 : Int32) (s : zσ) : Option (Int32 × zσ) :=
    if zin? x1 9 = true then
    zlet (sI s 1005 (nx x1) (x2 + (1 : Int32))) fun u1 =>
    yb0 (f26 n u1) fun u2 =>
    some (x2, u2)
    else none
def f34_60 (n : Nat) (x1 : Int32) (x2 : Int32) (y0 : Int32) (s : zσ) : Option (Int32 × zσ) :=
    if zin? x1 9 = true then
    if y0 < (zmost.getD (nx x1) 0) then
    zrd 9 (s.2.2 1004 4) fun a1 =>
    yb1 (f35 n a1 (s.2.1 1001 7) s) fun v3 u2 =>
    if v3 = (0 : Int32) then
    zrd 9 (u2.2.2 1004 4) fun a4 =>
    if zin? x1 9 = true then
    zrw (u2.2.2 (a4 + 1) (nx x1)) fun a5 =>
    if zin? x2 8 = true then
    zlet (sJ u2 a5 (nx x2) (u2.2.1 1001 7)) fun u6 =>
    zrd 9 (u6.2.2 1004 4) fun a7 =>
    if zin? x1 9 = true then
    zlet (sI u6 (a7 + 11) (nx x1) (x2 + (1 : Int32))) fun u8 =>
    f34_129 n x1 x2 u8
    else none
    else none
    else none
    else yb1 (f32 n (4 : Int32) u2) fun v10 u9 =>
    some (v10, u9)
    else yb1 (f32 n (3 : Int32) s) fun v12 u11 =>
    some (v12, u11)
    else none
def f34_42 (n : Nat) (x1 : Int32) (x2 : Int32) (s : zσ) : Option (Int32 × zσ) :=
    if zin? (5 : Int32) 9 = true then
    if zin? (6 : Int32) 9 = true then
    f34_60 n x1 x2 ((s.1 1005 (nx (5 : Int32))) + (s.1 1005 (nx (6 : Int32)))) s
    else none
    else none
def f34 (n : Nat) (x1 : Int32) (s : zσ) : Option (Int32 × zσ) :=
    if (s.1 1001 4) = (1 : Int32) then
    if zin? x1 9 = true then
    zlet ((s.1 1005 (nx x1))) fun v1 =>
    if (s.1 1004 7) = (0 : Int32) then
    if x1 = (5 : Int32) then
    f34_42 n x1 v1 s
    else if x1 = (6 : Int32) then
    f34_42 n x1 v1 s
    else f34_60 n x1 v1 v1 s
    else f34_129 n x1 v1 s
    else none
    else yb1 (f32 n (2 : Int32) s) fun v3 u2 =>
    some (v3, u2)
def f37 (n : Nat) (x1 : Int32) (s : zσ) : Option zσ :=
    if (s.1 1001 4) = x1 then
    yb0 (f26 n s) fun u3 =>
    some u3
    else yb1 (f32 n (2 : Int32) s) fun v2 u1 =>
    some u1
def f38_35 (n : Nat) : Nat → Int32 → zσ → Option zσ
  | 0, _, _ => none
  | j + 1, x1, s =>
    if x1 < (s.1 1004 3) then
    if zin? x1 3 = true then
    if (s.2.1 1006 (nx x1)) = (s.2.1 1001 7) then
    yb1 (f32 n (4 : Int32) s) fun v5 u4 =>
    some u4
    else f38_35 n j (x1 + (1 : Int32)) s
    else none
    else zlet (sI s 1004 3 ((s.1 1004 3) + (1 : Int32))) fun u1 =>
    if zin? (s.1 1004 3) 3 = true then
    zlet (sJ u1 1006 (nx (s.1 1004 3)) (u1.2.1 1001 7)) fun u2 =>
    yb0 (f26 n u2) fun u3 =>
    some u3
    else none
def f38 (n : Nat) (s : zσ) : Option zσ :=
    if (s.1 1001 4) = (1 : Int32) then
    if (s.1 1004 3) < (3 : Int32) then
    f38_35 n n (0 : Int32) s
    else yb1 (f32 n (3 : Int32) s) fun v2 u1 =>
    some u1
    else yb1 (f32 n (2 : Int32) s) fun v4 u3 =>
    some u3
def f39 (n : Nat) (x1 : Int32) (s : zσ) : Option (Int32 × zσ) :=
    if (s.1 1001 4) = x1 then
    yb0 (f26 n s) fun u1 =>
    some ((1 : Int32), u1)
    else some ((0 : Int32), s)
def f41 (n : Nat) (x1 : Int32) (s : zσ) : Option (Int32 × zσ) :=
    if (s.1 1001 4) = x1 then
    if (s.1 1004 9) < (12 : Int32) then
    zlet (sI s 1004 9 ((s.1 1004 9) + (1 : Int32))) fun u1 =>
    yb0 (f26 n u1) fun u2 =>
    some ((1 : Int32), u2)
    else yb1 (f32 n (3 : Int32) s) fun v4 u3 =>
    some ((0 : Int32), u3)
    else yb1 (f32 n (2 : Int32) s) fun v6 u5 =>
    some ((0 : Int32), u5)
def f42 (n : Nat) (x0 : Nat) (x1 : Int32) (x2 : Int32) (s : zσ) : Option (Int32 × zσ) :=
    if (s.1 x0 6) < (700 : Int32) then
    zlet (sI s x0 6 ((s.1 x0 6) + (1 : Int32))) fun u1 =>
    zlet ((s.1 x0 6)) fun v2 =>
    if zin? v2 700 = true then
    zlet (sI u1 (x0 + 1) (nx v2) x1) fun u3 =>
    if zin? v2 700 = true then
    zlet (sI u3 (x0 + 2) (nx v2) x2) fun u4 =>
    if zin? v2 700 = true then
    zlet (sI u4 (x0 + 3) (nx v2) (-1 : Int32)) fun u5 =>
    if zin? v2 700 = true then
    zlet (sI u5 (x0 + 4) (nx v2) (-1 : Int32)) fun u6 =>
    if zin? v2 700 = true then
    zlet (sI u6 (x0 + 5) (nx v2) (-1 : Int32)) fun u7 =>
    if zin? v2 700 = true then
    zlet (sI u7 (x0 + 6) (nx v2) (0 : Int32)) fun u8 =>
    some (v2, u8)
    else none
    else none
    else none
    else none
    else none
    else none
    else some ((-1 : Int32), s)
def f44_10 (n : Nat) : Nat → Nat → Int32 → Int32 → Int32 → zσ → Option (Int32 × zσ)
  | 0, _, _, _, _, _ => none
  | j + 1, x0, x2, x3, x4, s =>
    if x4 < (700 : Int32) then
    if x3 = (-1 : Int32) then
    some ((-1 : Int32), s)
    else if zin? x3 700 = true then
    if (s.1 (x0 + 6) (nx x3)) = x2 then
    some (x3, s)
    else if zin? x3 700 = true then
    zlet ((s.1 (x0 + 5) (nx x3))) fun v1 =>
    f44_10 n j x0 x2 v1 (x4 + (1 : Int32)) s
    else none
    else none
    else some ((-1 : Int32), s)
def f44 (n : Nat) (x0 : Nat) (x1 : Int32) (x2 : Int32) (s : zσ) : Option (Int32 × zσ) :=
    if zin? x1 700 = true then
    zlet ((s.1 (x0 + 4) (nx x1))) fun v1 =>
    f44_10 n n x0 x2 v1 (0 : Int32) s
    else none
def f45 (n : Nat) (x0 : Nat) (x1 : Int32) (x2 : Int32) (x3 : Int32) (s : zσ) : Option zσ :=
    if zin? x2 700 = true then
    zlet (sI s (x0 + 6) (nx x2) x3) fun u1 =>
    if zin? x1 700 = true then
    if zin? x2 700 = true then
    zlet (sI u1 (x0 + 5) (nx x2) (u1.1 (x0 + 4) (nx x1))) fun u2 =>
    if zin? x1 700 = true then
    zlet (sI u2 (x0 + 4) (nx x1) x2) fun u3 =>
    some u3
    else none
    else none
    else none
    else none
def f43_92 (n : Nat) (g : Int32 → Int32 → zσ → Option (Int32 × zσ)) (s : zσ) : Option zσ :=
    yb1 (f32 n (5 : Int32) s) fun v2 u1 =>
    some u1
def f43_79 (n : Nat) (g : Int32 → Int32 → zσ → Option (Int32 × zσ)) (x1 : Int32) (x3 : Int32) (s : zσ) : Option zσ :=
    zrd 0 (s.2.2 1004 6) fun a1 =>
    yb1 (f44 n a1 x1 x3 s) fun v3 u2 =>
    if v3 = (-1 : Int32) then
    yb0 (f26 n u2) fun u4 =>
    yb1 (g (4 : Int32) x1 u4) fun v6 u5 =>
    if v6 = (-1 : Int32) then
    some u5
    else zrd 0 (u5.2.2 1004 6) fun a7 =>
    yb0 (f45 n a7 x1 v6 x3 u5) fun u8 =>
    some u8
    else f43_92 n g u2
def f43_63 (n : Nat) (g : Int32 → Int32 → zσ → Option (Int32 × zσ)) (x1 : Int32) (x2 : Int32) (y0 : Int32) (s : zσ) : Option zσ :=
    if x2 = (0 : Int32) then
    if y0 < (1 : Int32) then
    f43_92 n g s
    else if (19 : Int32) < y0 then
    f43_92 n g s
    else f43_79 n g x1 y0 s
    else f43_79 n g x1 y0 s
def f43_48 (n : Nat) (g : Int32 → Int32 → zσ → Option (Int32 × zσ)) (x1 : Int32) (x2 : Int32) (s : zσ) : Option zσ :=
    if x2 = (0 : Int32) then
    f43_63 n g x1 x2 (s.1 1001 6) s
    else f43_63 n g x1 x2 (0 : Int32) s
def f43_25 (n : Nat) (g : Int32 → Int32 → zσ → Option (Int32 × zσ)) (x1 : Int32) (y0 : Int32) (s : zσ) : Option zσ :=
    if y0 = (0 : Int32) then
    if (s.1 1001 4) = (2 : Int32) then
    f43_48 n g x1 y0 s
    else yb1 (f32 n (2 : Int32) s) fun v2 u1 =>
    some u1
    else f43_48 n g x1 y0 s
def f43 (n : Nat) (g : Int32 → Int32 → zσ → Option (Int32 × zσ)) (x1 : Int32) (s : zσ) : Option zσ :=
    yb0 (f26 n s) fun u1 =>
    if (u1.1 1001 4) = (139 : Int32) then
    f43_25 n g x1 (1 : Int32) u1
    else f43_25 n g x1 (0 : Int32) u1
def f47 (n : Nat) (x0 : Nat) (x1 : Int32) (x2 : Int32) (s : zσ) : Option (Int32 × zσ) :=
    if (s.1 x0 9) < (200 : Int32) then
    zlet (sI s x0 9 ((s.1 x0 9) + (1 : Int32))) fun u1 =>
    zlet ((s.1 x0 9)) fun v2 =>
    if zin? v2 200 = true then
    zlet (sI u1 (x0 + 1) (nx v2) x1) fun u3 =>
    if zin? v2 200 = true then
    zlet (sI u3 (x0 + 2) (nx v2) (-1 : Int32)) fun u4 =>
    if zin? v2 200 = true then
    zlet (sI u4 (x0 + 3) (nx v2) (-1 : Int32)) fun u5 =>
    if zin? v2 200 = true then
    zlet (sI u5 (x0 + 4) (nx v2) (u5.1 x0 11)) fun u6 =>
    if zin? v2 200 = true then
    zlet (sI u6 (x0 + 5) (nx v2) (u6.1 x0 11)) fun u7 =>
    if zin? v2 200 = true then
    zlet (sI u7 (x0 + 6) (nx v2) (-1 : Int32)) fun u8 =>
    if zin? v2 200 = true then
    zlet (sI u8 (x0 + 7) (nx v2) x2) fun u9 =>
    some (v2, u9)
    else none
    else none
    else none
    else none
    else none
    else none
    else none
    else some ((-1 : Int32), s)
def f54 (n : Nat) (x0 : Nat) (x1 : Int32) (x2 : Int32) (s : zσ) : Option zσ :=
    if (s.1 x0 11) < (400 : Int32) then
    if zin? (s.1 x0 11) 400 = true then
    zlet (sI s (x0 + 8) (nx (s.1 x0 11)) x1) fun u1 =>
    if zin? (u1.1 x0 11) 400 = true then
    zlet (sI u1 (x0 + 9) (nx (u1.1 x0 11)) x2) fun u2 =>
    zlet (sI u2 x0 11 ((u2.1 x0 11) + (1 : Int32))) fun u3 =>
    some u3
    else none
    else none
    else some s
def f58 (n : Nat) (s : zσ) : Option zσ :=
    zrd 6 (s.2.2 1004 5) fun a1 =>
    if (s.1 a1 10) < (400 : Int32) then
    if (s.1 1001 4) = (4 : Int32) then
    some s
    else zrd 6 (s.2.2 1004 5) fun a2 =>
    zlet (sI s a2 10 ((s.1 a2 10) + (1 : Int32))) fun u3 =>
    yb0 (f26 n u3) fun u4 =>
    some u4
    else yb1 (f32 n (3 : Int32) s) fun v6 u5 =>
    some u5
def f51_49 (n : Nat) (g : zσ → Option zσ) (r6 : Int32 → zσ → Option zσ) (x1 : Int32) (s : zσ) : Option zσ :=
    zlet ((s.1 1001 4)) fun v1 =>
    yb0 (f58 n s) fun u2 =>
    yb0 (g u2) fun u3 =>
    zrd 6 (u3.2.2 1004 5) fun a4 =>
    yb0 (f54 n a4 v1 (0 : Int32) u3) fun u5 =>
    r6 (x1 + (1 : Int32)) u5
def f51_6 (n : Nat) (g : zσ → Option zσ) : Nat → Int32 → zσ → Option zσ
  | 0, _, _ => none
  | j + 1, x1, s =>
    if x1 < (4000 : Int32) then
    if (s.1 1001 4) = (42 : Int32) then
    f51_49 n g (f51_6 n g j) x1 s
    else if (s.1 1001 4) = (47 : Int32) then
    f51_49 n g (f51_6 n g j) x1 s
    else if (s.1 1001 4) = (37 : Int32) then
    f51_49 n g (f51_6 n g j) x1 s
    else some s
    else some s
def f51 (n : Nat) (g : zσ → Option zσ) (s : zσ) : Option zσ :=
    yb0 (g s) fun u1 =>
    f51_6 n g n (0 : Int32) u1
def f50_37 (n : Nat) (g : zσ → Option zσ) (r6 : Int32 → zσ → Option zσ) (x1 : Int32) (s : zσ) : Option zσ :=
    zlet ((s.1 1001 4)) fun v1 =>
    yb0 (f58 n s) fun u2 =>
    yb0 (f51 n g u2) fun u3 =>
    zrd 6 (u3.2.2 1004 5) fun a4 =>
    yb0 (f54 n a4 v1 (0 : Int32) u3) fun u5 =>
    r6 (x1 + (1 : Int32)) u5
def f50_6 (n : Nat) (g : zσ → Option zσ) : Nat → Int32 → zσ → Option zσ
  | 0, _, _ => none
  | j + 1, x1, s =>
    if x1 < (4000 : Int32) then
    if (s.1 1001 4) = (43 : Int32) then
    f50_37 n g (f50_6 n g j) x1 s
    else if (s.1 1001 4) = (45 : Int32) then
    f50_37 n g (f50_6 n g j) x1 s
    else some s
    else some s
def f50 (n : Nat) (g : zσ → Option zσ) (s : zσ) : Option zσ :=
    yb0 (f51 n g s) fun u1 =>
    f50_6 n g n (0 : Int32) u1
def f49_30 (n : Nat) (g : zσ → Option zσ) (x1 : Int32) (s : zσ) : Option zσ :=
    yb0 (f58 n s) fun u1 =>
    yb0 (f50 n g u1) fun u2 =>
    zrd 6 (u2.2.2 1004 5) fun a3 =>
    yb0 (f54 n a3 x1 (0 : Int32) u2) fun u4 =>
    some u4
def f49 (n : Nat) (g : zσ → Option zσ) (s : zσ) : Option zσ :=
    yb0 (f50 n g s) fun u1 =>
    zlet ((u1.1 1001 4)) fun v2 =>
    if v2 = (61 : Int32) then
    f49_30 n g v2 u1
    else if v2 = (60 : Int32) then
    f49_30 n g v2 u1
    else if v2 = (62 : Int32) then
    f49_30 n g v2 u1
    else some u1
def f53 (n : Nat) (s : zσ) : Option zσ :=
    zrd 6 (s.2.2 1004 5) fun a1 =>
    if (s.1 a1 10) < (400 : Int32) then
    zrd 6 (s.2.2 1004 5) fun a2 =>
    zlet (sI s a2 10 ((s.1 a2 10) + (1 : Int32))) fun u3 =>
    some u3
    else yb1 (f32 n (3 : Int32) s) fun v5 u4 =>
    some u4
def f56_41 (n : Nat) (x1 : Int32) (s : zσ) : Option (Int32 × zσ) :=
    if x1 < (s.1 1001 2) then
    if zin? x1 4000 = true then
    some ((s.1 1002 (nx x1)), s)
    else none
    else some ((0 : Int32), s)
def f56_35 (n : Nat) (r5 : Int32 → zσ → Option (Int32 × zσ)) (x1 : Int32) (s : zσ) : Option (Int32 × zσ) :=
    r5 (x1 + (1 : Int32)) s
def f56_5 (n : Nat) : Nat → Int32 → zσ → Option (Int32 × zσ)
  | 0, _, _ => none
  | j + 1, x1, s =>
    if x1 < (s.1 1001 2) then
    if zin? x1 4000 = true then
    if (s.1 1002 (nx x1)) = (32 : Int32) then
    f56_35 n (f56_5 n j) x1 s
    else if zin? x1 4000 = true then
    if (s.1 1002 (nx x1)) = (10 : Int32) then
    f56_35 n (f56_5 n j) x1 s
    else f56_41 n x1 s
    else none
    else none
    else f56_41 n x1 s
def f56 (n : Nat) (s : zσ) : Option (Int32 × zσ) :=
    zlet ((s.1 1001 3)) fun v1 =>
    f56_5 n n v1 s
def f57_100 (n : Nat) (x2 : Int32) (s : zσ) : Option (Int32 × zσ) :=
    if x2 = (-1 : Int32) then
    yb1 (f32 n (6 : Int32) s) fun v3 u2 =>
    some (v3, u2)
    else yb0 (f26 n s) fun u1 =>
    some (x2, u1)
def f57_94 (n : Nat) (r54 : Int32 → Int32 → Int32 → zσ → Option (Int32 × zσ)) (x1 : Int32) (x2 : Int32) (x3 : Int32) (s : zσ) : Option (Int32 × zσ) :=
    r54 x1 x2 (x3 + (1 : Int32)) s
def f57_93 (n : Nat) (r54 : Int32 → Int32 → Int32 → zσ → Option (Int32 × zσ)) (x1 : Int32) (x3 : Int32) (y0 : Int32) (s : zσ) : Option (Int32 × zσ) :=
    f57_94 n r54 x1 y0 x3 s
def f57_54 (n : Nat) : Nat → Int32 → Int32 → Int32 → zσ → Option (Int32 × zσ)
  | 0, _, _, _, _ => none
  | j + 1, x1, x2, x3, s =>
    if x3 < (s.1 1004 3) then
    if zin? x3 3 = true then
    if (s.2.1 1006 (nx x3)) = (s.2.1 1001 7) then
    if x1 = (9 : Int32) then
    f57_93 n (f57_54 n j) x1 x3 ((8 : Int32) + x3) s
    else f57_93 n (f57_54 n j) x1 x3 (-1 : Int32) s
    else f57_94 n (f57_54 n j) x1 x2 x3 s
    else none
    else f57_100 n x2 s
def f57_41 (n : Nat) (x1 : Int32) (y0 : Int32) (y1 : Nat) (s : zσ) : Option (Int32 × zσ) :=
    yb1 (f36 n y1 y0 (s.2.1 1001 7) s) fun v2 u1 =>
    f57_54 n n x1 v2 (0 : Int32) u1
def f57 (n : Nat) (x1 : Int32) (s : zσ) : Option (Int32 × zσ) :=
    if (s.1 1001 4) = (1 : Int32) then
    if (s.1 1004 7) = (0 : Int32) then
    f57_100 n (0 : Int32) s
    else zrd 9 (s.2.2 1004 4) fun a1 =>
    if x1 = (9 : Int32) then
    f57_41 n x1 (0 : Int32) a1 s
    else f57_41 n x1 x1 a1 s
    else yb1 (f32 n (2 : Int32) s) fun v3 u2 =>
    some (v3, u2)
def f55 (n : Nat) (g : zσ → Option zσ) (s : zσ) : Option zσ :=
    yb0 (f53 n s) fun u1 =>
    yb1 (f56 n u1) fun v3 u2 =>
    if v3 = (91 : Int32) then
    yb1 (f57 n (1 : Int32) u2) fun v5 u4 =>
    yb1 (f41 n (91 : Int32) u4) fun v7 u6 =>
    if v7 = (0 : Int32) then
    some u6
    else yb0 (f49 n g u6) fun u8 =>
    yb0 (f37 n (93 : Int32) u8) fun u9 =>
    zlet (sI u9 1004 9 ((u9.1 1004 9) - (1 : Int32))) fun u10 =>
    zrd 6 (u10.2.2 1004 5) fun a11 =>
    yb0 (f54 n a11 (91 : Int32) v5 u10) fun u12 =>
    some u12
    else zrd 6 (u2.2.2 1004 5) fun a13 =>
    yb1 (f57 n (9 : Int32) u2) fun v15 u14 =>
    yb0 (f54 n a13 (1 : Int32) v15 u14) fun u16 =>
    some u16
def f52_174 (n : Nat) (g : zσ → Option zσ) (y0 : Int32) (y2 : Int32) (y3 : Nat) (s : zσ) : Option zσ :=
    yb1 (f57 n y0 s) fun v2 u1 =>
    yb0 (f54 n y3 y2 v2 u1) fun u3 =>
    some u3
def f52_151 (n : Nat) (g : zσ → Option zσ) (x1 : Int32) (s : zσ) : Option zσ :=
    yb0 (f58 n s) fun u1 =>
    zrd 6 (u1.2.2 1004 5) fun a2 =>
    if x1 = (142 : Int32) then
    f52_174 n g (1 : Int32) x1 a2 u1
    else f52_174 n g (8 : Int32) x1 a2 u1
def f52_115 (n : Nat) (g : zσ → Option zσ) (x1 : Int32) (s : zσ) : Option zσ :=
    zrd 6 (s.2.2 1004 5) fun a1 =>
    yb0 (f54 n a1 x1 (s.1 1001 6) s) fun u2 =>
    yb0 (f58 n u2) fun u3 =>
    some u3
def f52b (n : Nat) (g : zσ → Option zσ) (s : zσ) : Option zσ :=
    zlet ((s.1 1001 4)) fun v1 =>
    if v1 = (40 : Int32) then
    yb1 (f41 n (40 : Int32) s) fun v13 u12 =>
    if v13 = (0 : Int32) then
    some u12
    else yb0 (f49 n g u12) fun u14 =>
    yb0 (f37 n (41 : Int32) u14) fun u15 =>
    zlet (sI u15 1004 9 ((u15.1 1004 9) - (1 : Int32))) fun u16 =>
    some u16
    else if v1 = (45 : Int32) then
    yb0 (f53 n s) fun u5 =>
    yb1 (f41 n (45 : Int32) u5) fun v7 u6 =>
    if v7 = (0 : Int32) then
    some u6
    else yb0 (g u6) fun u8 =>
    zlet (sI u8 1004 9 ((u8.1 1004 9) - (1 : Int32))) fun u9 =>
    zrd 6 (u9.2.2 1004 5) fun a10 =>
    yb0 (f54 n a10 (5 : Int32) (0 : Int32) u9) fun u11 =>
    some u11
    else if v1 = (1 : Int32) then
    yb0 (f55 n g s) fun u4 =>
    some u4
    else if v1 = (2 : Int32) then
    f52_115 n g v1 s
    else if v1 = (143 : Int32) then
    f52_115 n g v1 s
    else if v1 = (142 : Int32) then
    f52_151 n g v1 s
    else if v1 = (144 : Int32) then
    f52_151 n g v1 s
    else yb1 (f32 n (2 : Int32) s) fun v3 u2 =>
    some u2
def f52 (n : Nat) : Nat → zσ → Option zσ
  | 0, _ => none
  | k + 1, s => f52b n (f52 n k) s
def f48_66 (n : Nat) (g : Int32 → Int32 → zσ → Option (Int32 × zσ)) (x1 : Int32) (x2 : Int32) (y0 : Int32) (y2 : Int32) (y3 : Nat) (s : zσ) : Option zσ :=
    yb1 (g y0 x1 s) fun v2 u1 =>
    if zin? y2 200 = true then
    zlet (sI u1 y3 (nx y2) v2) fun u3 =>
    if x2 = (0 : Int32) then
    yb1 (f39 n (140 : Int32) u3) fun v5 u4 =>
    if v5 = (0 : Int32) then
    some u4
    else zrd 6 (u4.2.2 1004 5) fun a6 =>
    yb1 (g (2 : Int32) x1 u4) fun v8 u7 =>
    if zin? x1 200 = true then
    zlet (sI u7 (a6 + 3) (nx x1) v8) fun u9 =>
    some u9
    else none
    else some u3
    else none
def f48_20 (n : Nat) (g : Int32 → Int32 → zσ → Option (Int32 × zσ)) (x1 : Int32) (y0 : Int32) (s : zσ) : Option zσ :=
    yb0 (f26 n s) fun u1 =>
    yb0 (f49 n (f52 n 20) u1) fun u2 =>
    zrd 6 (u2.2.2 1004 5) fun a3 =>
    zrd 6 (u2.2.2 1004 5) fun a4 =>
    if zin? x1 200 = true then
    zlet (sI u2 (a3 + 5) (nx x1) (u2.1 a4 11)) fun u5 =>
    zrd 6 (u5.2.2 1004 5) fun a6 =>
    if y0 = (0 : Int32) then
    f48_66 n g x1 y0 (2 : Int32) x1 (a6 + 2) u5
    else f48_66 n g x1 y0 (3 : Int32) x1 (a6 + 2) u5
    else none
def f48 (n : Nat) (g : Int32 → Int32 → zσ → Option (Int32 × zσ)) (x1 : Int32) (s : zσ) : Option zσ :=
    zrd 6 (s.2.2 1004 5) fun a1 =>
    if zin? x1 200 = true then
    if (s.1 (a1 + 1) (nx x1)) = (152 : Int32) then
    f48_20 n g x1 (1 : Int32) s
    else f48_20 n g x1 (0 : Int32) s
    else none
def f59_66 (n : Nat) (s : zσ) : Option zσ :=
    yb0 (f37 n (61 : Int32) s) fun u1 =>
    yb0 (f49 n (f52 n 20) u1) fun u2 =>
    some u2
def f59 (n : Nat) (x1 : Int32) (s : zσ) : Option zσ :=
    yb1 (f56 n s) fun v2 u1 =>
    if v2 = (91 : Int32) then
    zrd 6 (u1.2.2 1004 5) fun a13 =>
    if zin? x1 200 = true then
    zlet (sI u1 (a13 + 1) (nx x1) (91 : Int32)) fun u14 =>
    zrd 6 (u14.2.2 1004 5) fun a15 =>
    yb1 (f57 n (1 : Int32) u14) fun v17 u16 =>
    if zin? x1 200 = true then
    zlet (sI u16 (a15 + 2) (nx x1) v17) fun u18 =>
    yb1 (f41 n (91 : Int32) u18) fun v20 u19 =>
    if v20 = (0 : Int32) then
    f59_66 n u19
    else yb0 (f49 n (f52 n 20) u19) fun u21 =>
    yb0 (f37 n (93 : Int32) u21) fun u22 =>
    zlet (sI u22 1004 9 ((u22.1 1004 9) - (1 : Int32))) fun u23 =>
    f59_66 n u23
    else none
    else none
    else zrd 6 (u1.2.2 1004 5) fun a3 =>
    yb1 (f57 n (9 : Int32) u1) fun v5 u4 =>
    if zin? x1 200 = true then
    zlet (sI u4 (a3 + 2) (nx x1) v5) fun u6 =>
    yb0 (f37 n (61 : Int32) u6) fun u7 =>
    yb1 (f39 n (149 : Int32) u7) fun v9 u8 =>
    if v9 = (0 : Int32) then
    yb0 (f49 n (f52 n 20) u8) fun u10 =>
    some u10
    else zrd 6 (u8.2.2 1004 5) fun a11 =>
    if zin? x1 200 = true then
    zlet (sI u8 (a11 + 1) (nx x1) (149 : Int32)) fun u12 =>
    some u12
    else none
    else none
def f60_111 (n : Nat) (x1 : Int32) (s : zσ) : Option zσ :=
    zrd 6 (s.2.2 1004 5) fun a1 =>
    if zin? x1 200 = true then
    zlet (sI s (a1 + 1) (nx x1) (s.1 1001 4)) fun u2 =>
    yb0 (f26 n u2) fun u3 =>
    zrd 6 (u3.2.2 1004 5) fun a4 =>
    yb1 (f57 n (8 : Int32) u3) fun v6 u5 =>
    if zin? x1 200 = true then
    zlet (sI u5 (a4 + 2) (nx x1) v6) fun u7 =>
    some u7
    else none
    else none
def f60_78 (n : Nat) (x1 : Int32) (s : zσ) : Option zσ :=
    if (s.1 1001 4) = (167 : Int32) then
    f60_111 n x1 s
    else if (s.1 1001 4) = (168 : Int32) then
    f60_111 n x1 s
    else yb1 (f32 n (2 : Int32) s) fun v2 u1 =>
    some u1
def f60_68 (n : Nat) (x1 : Int32) (x2 : Int32) (s : zσ) : Option zσ :=
    zrd 6 (s.2.2 1004 5) fun a1 =>
    if zin? x1 200 = true then
    zlet (sI s (a1 + 3) (nx x1) x2) fun u2 =>
    f60_78 n x1 u2
    else none
def f60 (n : Nat) (x1 : Int32) (s : zσ) : Option zσ :=
    zlet ((s.1 1001 4)) fun v1 =>
    yb0 (f26 n s) fun u2 =>
    if v1 = (148 : Int32) then
    zrd 6 (u2.2.2 1004 5) fun a7 =>
    yb1 (f57 n (4 : Int32) u2) fun v9 u8 =>
    if zin? x1 200 = true then
    zlet (sI u8 (a7 + 3) (nx x1) v9) fun u10 =>
    f60_78 n x1 u10
    else none
    else yb0 (f49 n (f52 n 20) u2) fun u3 =>
    if v1 = (147 : Int32) then
    yb1 (f39 n (141 : Int32) u3) fun v5 u4 =>
    if v5 = (0 : Int32) then
    f60_68 n x1 v1 u4
    else yb0 (f49 n (f52 n 20) u4) fun u6 =>
    f60_68 n x1 (141 : Int32) u6
    else f60_68 n x1 v1 u3
def f61_68 (n : Nat) (x1 : Int32) (x2 : Int32) (s : zσ) : Option zσ :=
    zrd 6 (s.2.2 1004 5) fun a1 =>
    if zin? x1 200 = true then
    zlet (sI s (a1 + 2) (nx x1) x2) fun u2 =>
    some u2
    else none
def f61_40 (n : Nat) (r7 : Int32 → Int32 → Int32 → Int32 → zσ → Option zσ) (x1 : Int32) (x2 : Int32) (x4 : Int32) (s : zσ) : Option zσ :=
    yb1 (f57 n (2 : Int32) s) fun v2 u1 =>
    zlet ((x2 ||| ((v2 + (1 : Int32)) <<< (((4 : Int32) * x4) &&& 31)))) fun v3 =>
    yb1 (f39 n (44 : Int32) u1) fun v5 u4 =>
    r7 x1 v3 v5 (x4 + (1 : Int32)) u4
def f61_7 (n : Nat) : Nat → Int32 → Int32 → Int32 → Int32 → zσ → Option zσ
  | 0, _, _, _, _, _ => none
  | j + 1, x1, x2, x3, x4, s =>
    if x3 = (0 : Int32) then
    f61_68 n x1 x2 s
    else if (4 : Int32) < x4 then
    f61_68 n x1 x2 s
    else if x4 = (4 : Int32) then
    if (s.1 1001 4) = (1 : Int32) then
    yb1 (f32 n (3 : Int32) s) fun v2 u1 =>
    f61_40 n (f61_7 n j) x1 x2 x4 u1
    else f61_40 n (f61_7 n j) x1 x2 x4 s
    else f61_40 n (f61_7 n j) x1 x2 x4 s
def f61 (n : Nat) (x1 : Int32) (s : zσ) : Option zσ :=
    f61_7 n n x1 (0 : Int32) (1 : Int32) (0 : Int32) s
def f63 (n : Nat) (x0 : Int32) (s : zσ) : Option (Int32 × zσ) :=
    if x0 = (150 : Int32) then
    some ((-1 : Int32), s)
    else if x0 = (154 : Int32) then
    some ((1 : Int32), s)
    else if x0 = (155 : Int32) then
    some ((1 : Int32), s)
    else if x0 = (156 : Int32) then
    some ((1 : Int32), s)
    else if x0 = (157 : Int32) then
    some ((-1 : Int32), s)
    else if x0 = (158 : Int32) then
    some ((-1 : Int32), s)
    else if x0 = (161 : Int32) then
    some ((3 : Int32), s)
    else if x0 = (162 : Int32) then
    some ((3 : Int32), s)
    else if x0 = (163 : Int32) then
    some ((3 : Int32), s)
    else if x0 = (164 : Int32) then
    some ((3 : Int32), s)
    else if x0 = (165 : Int32) then
    some ((5 : Int32), s)
    else if x0 = (166 : Int32) then
    some ((6 : Int32), s)
    else if x0 = (172 : Int32) then
    some ((4 : Int32), s)
    else if x0 = (173 : Int32) then
    some ((4 : Int32), s)
    else if x0 = (174 : Int32) then
    some ((4 : Int32), s)
    else some ((8 : Int32), s)
def f62_127 (n : Nat) (s : zσ) : Option zσ :=
    yb0 (f49 n (f52 n 20) s) fun u1 =>
    some u1
def f62_53 (n : Nat) (x1 : Int32) (x2 : Int32) (x3 : Int32) (s : zσ) : Option zσ :=
    if x2 = (155 : Int32) then
    zrd 6 (s.2.2 1004 5) fun a5 =>
    yb1 (f57 n (1 : Int32) s) fun v7 u6 =>
    if zin? x1 200 = true then
    zlet (sI u6 (a5 + 3) (nx x1) v7) fun u8 =>
    some u8
    else none
    else if x2 = (165 : Int32) then
    zrd 6 (s.2.2 1004 5) fun a1 =>
    yb1 (f57 n (0 : Int32) s) fun v3 u2 =>
    if zin? x1 200 = true then
    zlet (sI u2 (a1 + 3) (nx x1) v3) fun u4 =>
    some u4
    else none
    else if x3 = (-1 : Int32) then
    f62_127 n s
    else if x2 = (154 : Int32) then
    f62_127 n s
    else if x2 = (170 : Int32) then
    f62_127 n s
    else if x2 = (166 : Int32) then
    f62_127 n s
    else some s
def f62_39 (n : Nat) (x1 : Int32) (x2 : Int32) (x3 : Int32) (s : zσ) : Option zσ :=
    zrd 6 (s.2.2 1004 5) fun a1 =>
    yb1 (f57 n x3 s) fun v3 u2 =>
    if zin? x1 200 = true then
    zlet (sI u2 (a1 + 2) (nx x1) v3) fun u4 =>
    f62_53 n x1 x2 x3 u4
    else none
def f62 (n : Nat) (x1 : Int32) (s : zσ) : Option zσ :=
    zrd 6 (s.2.2 1004 5) fun a1 =>
    if zin? x1 200 = true then
    zlet ((s.1 (a1 + 1) (nx x1))) fun v2 =>
    yb1 (f63 n v2 s) fun v4 u3 =>
    if v4 = (-1 : Int32) then
    f62_53 n x1 v2 v4 u3
    else if v2 = (153 : Int32) then
    if (u3.1 1001 4) = (59 : Int32) then
    f62_53 n x1 v2 v4 u3
    else f62_39 n x1 v2 v4 u3
    else f62_39 n x1 v2 v4 u3
    else none
def f65_36 (n : Nat) (s : zσ) : Option (Int32 × zσ) :=
    some ((1 : Int32), s)
def f65 (n : Nat) (x0 : Int32) (s : zσ) : Option (Int32 × zσ) :=
    if x0 = (1 : Int32) then
    f65_36 n s
    else if x0 = (2 : Int32) then
    f65_36 n s
    else if x0 = (40 : Int32) then
    f65_36 n s
    else if x0 = (45 : Int32) then
    f65_36 n s
    else if x0 < (142 : Int32) then
    some ((0 : Int32), s)
    else if (144 : Int32) < x0 then
    some ((0 : Int32), s)
    else f65_36 n s
def f64_103 (n : Nat) (x1 : Int32) (x2 : Int32) (x3 : Int32) (x4 : Int32) (s : zσ) : Option zσ :=
    yb0 (f37 n (41 : Int32) s) fun u1 =>
    zrd 6 (u1.2.2 1004 5) fun a2 =>
    if zin? x1 200 = true then
    zlet (sI u1 (a2 + 3) (nx x1) x3) fun u3 =>
    if (u3.1 1004 7) = (0 : Int32) then
    some u3
    else if (u3.1 1004 12) = (-1 : Int32) then
    if x3 = (-1 : Int32) then
    some u3
    else zrd 9 (u3.2.2 1004 4) fun a4 =>
    if zin? x3 6 = true then
    if x4 = (u3.1 (a4 + 18) (nx x3)) then
    some u3
    else zlet (sI u3 1004 12 x2) fun u5 =>
    some u5
    else none
    else some u3
    else none
def f64_82 (n : Nat) (r46 : Int32 → Int32 → Int32 → Int32 → Int32 → Int32 → zσ → Option zσ) (x1 : Int32) (x2 : Int32) (x3 : Int32) (x4 : Int32) (x6 : Int32) (s : zσ) : Option zσ :=
    yb0 (f49 n (f52 n 20) s) fun u1 =>
    yb1 (f39 n (44 : Int32) u1) fun v3 u2 =>
    r46 x1 x2 x3 (x4 + (1 : Int32)) v3 (x6 + (1 : Int32)) u2
def f64_46 (n : Nat) : Nat → Int32 → Int32 → Int32 → Int32 → Int32 → Int32 → zσ → Option zσ
  | 0, _, _, _, _, _, _, _ => none
  | j + 1, x1, x2, x3, x4, x5, x6, s =>
    if x5 = (0 : Int32) then
    f64_103 n x1 x2 x3 x4 s
    else if (3 : Int32) < x6 then
    f64_103 n x1 x2 x3 x4 s
    else if x6 = (3 : Int32) then
    yb1 (f65 n (s.1 1001 4) s) fun v2 u1 =>
    if v2 = (0 : Int32) then
    f64_82 n (f64_46 n j) x1 x2 x3 x4 x6 u1
    else yb1 (f32 n (3 : Int32) u1) fun v4 u3 =>
    f64_82 n (f64_46 n j) x1 x2 x3 x4 x6 u3
    else f64_82 n (f64_46 n j) x1 x2 x3 x4 x6 s
def f64_41 (n : Nat) (x1 : Int32) (x2 : Int32) (x3 : Int32) (x4 : Int32) (y0 : Int32) (s : zσ) : Option zσ :=
    f64_46 n n x1 x2 x3 x4 y0 (0 : Int32) s
def f64 (n : Nat) (x1 : Int32) (s : zσ) : Option zσ :=
    zlet ((s.1 1001 5)) fun v1 =>
    yb1 (f57 n (7 : Int32) s) fun v3 u2 =>
    yb0 (f37 n (40 : Int32) u2) fun u4 =>
    if (u4.1 1001 4) = (41 : Int32) then
    f64_41 n x1 v1 v3 (0 : Int32) (0 : Int32) u4
    else f64_41 n x1 v1 v3 (0 : Int32) (1 : Int32) u4
def f46_166 (n : Nat) (g : Int32 → Int32 → zσ → Option (Int32 × zσ)) (x3 : Int32) (s : zσ) : Option (Int32 × zσ) :=
    zrd 6 (s.2.2 1004 5) fun a1 =>
    zrd 6 (s.2.2 1004 5) fun a2 =>
    if zin? x3 200 = true then
    zlet (sI s (a1 + 5) (nx x3) (s.1 a2 11)) fun u3 =>
    yb0 (f37 n (59 : Int32) u3) fun u4 =>
    some (x3, u4)
    else none
def f46_146 (n : Nat) (g : Int32 → Int32 → zσ → Option (Int32 × zσ)) (x3 : Int32) (s : zσ) : Option (Int32 × zσ) :=
    zrd 6 (s.2.2 1004 5) fun a1 =>
    if zin? x3 200 = true then
    if (s.1 (a1 + 1) (nx x3)) = (149 : Int32) then
    yb0 (f64 n x3 s) fun u2 =>
    f46_166 n g x3 u2
    else f46_166 n g x3 s
    else none
def f46_126 (n : Nat) (g : Int32 → Int32 → zσ → Option (Int32 × zσ)) (x3 : Int32) (s : zσ) : Option (Int32 × zσ) :=
    yb0 (f61 n x3 s) fun u1 =>
    f46_146 n g x3 u1
def f46_105 (n : Nat) (g : Int32 → Int32 → zσ → Option (Int32 × zσ)) (x2 : Int32) (x3 : Int32) (s : zσ) : Option (Int32 × zσ) :=
    yb0 (f26 n s) fun u1 =>
    if x2 = (159 : Int32) then
    f46_126 n g x3 u1
    else if x2 = (160 : Int32) then
    f46_126 n g x3 u1
    else if x2 = (149 : Int32) then
    f46_146 n g x3 u1
    else yb0 (f62 n x3 u1) fun u2 =>
    f46_146 n g x3 u2
def f46_63 (n : Nat) (g : Int32 → Int32 → zσ → Option (Int32 × zσ)) (x3 : Int32) (s : zσ) : Option (Int32 × zσ) :=
    yb0 (f48 n g x3 s) fun u1 =>
    some (x3, u1)
def f46_28 (n : Nat) (g : Int32 → Int32 → zσ → Option (Int32 × zσ)) (x1 : Int32) (x2 : Int32) (s : zσ) : Option (Int32 × zσ) :=
    zrd 6 (s.2.2 1004 5) fun a1 =>
    yb1 (f47 n a1 x2 x1 s) fun v3 u2 =>
    if v3 = (-1 : Int32) then
    yb1 (f32 n (3 : Int32) u2) fun v7 u6 =>
    some (v7, u6)
    else if x2 = (151 : Int32) then
    f46_63 n g v3 u2
    else if x2 = (152 : Int32) then
    f46_63 n g v3 u2
    else if x2 = (1 : Int32) then
    yb0 (f59 n v3 u2) fun u5 =>
    f46_146 n g v3 u5
    else if x2 < (145 : Int32) then
    f46_105 n g x2 v3 u2
    else if (148 : Int32) < x2 then
    f46_105 n g x2 v3 u2
    else yb0 (f60 n v3 u2) fun u4 =>
    f46_146 n g v3 u4
def f46 (n : Nat) (g : Int32 → Int32 → zσ → Option (Int32 × zσ)) (x1 : Int32) (s : zσ) : Option (Int32 × zσ) :=
    zlet ((s.1 1001 4)) fun v1 =>
    if v1 = (150 : Int32) then
    if (s.1 1004 8) = (0 : Int32) then
    yb1 (f32 n (2 : Int32) s) fun v3 u2 =>
    some (v3, u2)
    else f46_28 n g x1 v1 s
    else f46_28 n g x1 v1 s
def f40_154 (n : Nat) (g : Int32 → Int32 → zσ → Option (Int32 × zσ)) (x3 : Int32) (s : zσ) : Option (Int32 × zσ) :=
    yb0 (f37 n (125 : Int32) s) fun u1 =>
    zlet (sI u1 1004 9 ((u1.1 1004 9) - (1 : Int32))) fun u2 =>
    some (x3, u2)
def f40_144 (n : Nat) (g : Int32 → Int32 → zσ → Option (Int32 × zσ)) (r73 : Int32 → Int32 → Int32 → zσ → Option (Int32 × zσ)) (x3 : Int32) (x5 : Int32) (x6 : Int32) (s : zσ) : Option (Int32 × zσ) :=
    r73 x3 x6 (x5 + (1 : Int32)) s
def f40_105 (n : Nat) (g : Int32 → Int32 → zσ → Option (Int32 × zσ)) (r73 : Int32 → Int32 → Int32 → zσ → Option (Int32 × zσ)) (x3 : Int32) (x4 : Int32) (x5 : Int32) (s : zσ) : Option (Int32 × zσ) :=
    yb1 (f46 n g x3 s) fun v2 u1 =>
    if x4 = (-1 : Int32) then
    zrd 0 (u1.2.2 1004 6) fun a5 =>
    if zin? x3 700 = true then
    zlet (sI u1 (a5 + 3) (nx x3) v2) fun u6 =>
    f40_144 n g r73 x3 x5 v2 u6
    else none
    else zrd 6 (u1.2.2 1004 5) fun a3 =>
    if zin? x4 200 = true then
    zlet (sI u1 (a3 + 6) (nx x4) v2) fun u4 =>
    f40_144 n g r73 x3 x5 v2 u4
    else none
def f40_73 (n : Nat) (g : Int32 → Int32 → zσ → Option (Int32 × zσ)) : Nat → Int32 → Int32 → Int32 → zσ → Option (Int32 × zσ)
  | 0, _, _, _, _ => none
  | j + 1, x3, x4, x5, s =>
    if x5 < (4000 : Int32) then
    if (s.1 1001 4) = (1 : Int32) then
    f40_105 n g (f40_73 n g j) x3 x4 x5 s
    else if (s.1 1001 4) < (145 : Int32) then
    f40_154 n g x3 s
    else f40_105 n g (f40_73 n g j) x3 x4 x5 s
    else f40_154 n g x3 s
def f40_67 (n : Nat) (g : Int32 → Int32 → zσ → Option (Int32 × zσ)) (x3 : Int32) (s : zσ) : Option (Int32 × zσ) :=
    f40_73 n g n x3 (-1 : Int32) (0 : Int32) s
def f40_35 (n : Nat) (g : Int32 → Int32 → zσ → Option (Int32 × zσ)) : Nat → Int32 → Int32 → zσ → Option (Int32 × zσ)
  | 0, _, _, _ => none
  | j + 1, x3, x4, s =>
    if x4 < (4000 : Int32) then
    if (s.1 1001 4) = (138 : Int32) then
    yb0 (f43 n g x3 s) fun u1 =>
    f40_35 n g j x3 (x4 + (1 : Int32)) u1
    else f40_67 n g x3 s
    else f40_67 n g x3 s
def f40b (n : Nat) (g : Int32 → Int32 → zσ → Option (Int32 × zσ)) (x1 : Int32) (x2 : Int32) (s : zσ) : Option (Int32 × zσ) :=
    yb1 (f41 n (123 : Int32) s) fun v2 u1 =>
    if v2 = (0 : Int32) then
    some ((-1 : Int32), u1)
    else zrd 0 (u1.2.2 1004 6) fun a3 =>
    yb1 (f42 n a3 x1 x2 u1) fun v5 u4 =>
    if v5 = (-1 : Int32) then
    yb1 (f32 n (3 : Int32) u4) fun v7 u6 =>
    some (v7, u6)
    else f40_35 n g n v5 (0 : Int32) u4
def f40 (n : Nat) : Nat → Int32 → Int32 → zσ → Option (Int32 × zσ)
  | 0, _, _, _ => none
  | k + 1, x1, x2, s => f40b n (f40 n k) x1 x2 s
def f33_112 (n : Nat) (s : zσ) : Option zσ :=
    zlet (sI s 1004 8 (0 : Int32)) fun u1 =>
    zlet (sI u1 1004 3 (0 : Int32)) fun u2 =>
    some u2
def f33_66 (n : Nat) (x1 : Int32) (s : zσ) : Option zσ :=
    yb0 (f37 n (41 : Int32) s) fun u1 =>
    zlet (sI u1 1004 8 (1 : Int32)) fun u2 =>
    yb1 (f40 n 20 (1 : Int32) x1 u2) fun v4 u3 =>
    if x1 = (-1 : Int32) then
    f33_112 n u3
    else zrd 9 (u3.2.2 1004 4) fun a5 =>
    if zin? x1 6 = true then
    zlet (sI u3 (a5 + 18) (nx x1) (u3.1 1004 3)) fun u6 =>
    zrd 9 (u6.2.2 1004 4) fun a7 =>
    if zin? x1 6 = true then
    zlet (sI u6 (a7 + 17) (nx x1) v4) fun u8 =>
    f33_112 n u8
    else none
    else none
def f33_40 (n : Nat) : Nat → Int32 → Int32 → Int32 → zσ → Option zσ
  | 0, _, _, _, _ => none
  | j + 1, x1, x2, x3, s =>
    if x2 = (0 : Int32) then
    f33_66 n x1 s
    else if (3 : Int32) < x3 then
    f33_66 n x1 s
    else yb0 (f38 n s) fun u1 =>
    yb1 (f39 n (44 : Int32) u1) fun v3 u2 =>
    f33_40 n j x1 v3 (x3 + (1 : Int32)) u2
def f33_37 (n : Nat) (x1 : Int32) (y0 : Int32) (s : zσ) : Option zσ :=
    f33_40 n n x1 y0 (0 : Int32) s
def f33 (n : Nat) (s : zσ) : Option zσ :=
    yb0 (f26 n s) fun u1 =>
    yb1 (f34 n (7 : Int32) u1) fun v3 u2 =>
    yb0 (f37 n (40 : Int32) u2) fun u4 =>
    if (u4.1 1001 4) = (41 : Int32) then
    f33_37 n v3 (0 : Int32) u4
    else f33_37 n v3 (1 : Int32) u4
def f67_35 (n : Nat) (s : zσ) : Option (Int32 × zσ) :=
    yb1 (f32 n (5 : Int32) s) fun v2 u1 =>
    some (v2, u1)
def f67 (n : Nat) (x1 : Int32) (x2 : Int32) (s : zσ) : Option (Int32 × zσ) :=
    if (s.1 1001 4) = (2 : Int32) then
    zlet ((s.1 1001 6)) fun v1 =>
    if v1 < x1 then
    f67_35 n s
    else if x2 < v1 then
    f67_35 n s
    else yb0 (f26 n s) fun u2 =>
    some (v1, u2)
    else yb1 (f32 n (2 : Int32) s) fun v4 u3 =>
    some (v4, u3)
def f66 (n : Nat) (s : zσ) : Option zσ :=
    yb0 (f26 n s) fun u1 =>
    yb1 (f34 n (8 : Int32) u1) fun v3 u2 =>
    yb1 (f67 n (1 : Int32) (9 : Int32) u2) fun v5 u4 =>
    yb1 (f39 n (137 : Int32) u4) fun v7 u6 =>
    yb1 (f40 n 20 (0 : Int32) v3 u6) fun v9 u8 =>
    if v3 = (-1 : Int32) then
    some u8
    else zrd 9 (u8.2.2 1004 4) fun a10 =>
    if zin? v3 8 = true then
    zlet (sI u8 (a10 + 14) (nx v3) v5) fun u11 =>
    zrd 9 (u11.2.2 1004 4) fun a12 =>
    if zin? v3 8 = true then
    zlet (sI u11 (a12 + 15) (nx v3) (vp_nar .boolean v7)) fun u13 =>
    zrd 9 (u13.2.2 1004 4) fun a14 =>
    if zin? v3 8 = true then
    zlet (sI u13 (a14 + 16) (nx v3) v9) fun u15 =>
    some u15
    else none
    else none
    else none
def f68_119 (n : Nat) (s : zσ) : Option zσ :=
    yb0 (f37 n (59 : Int32) s) fun u1 =>
    some u1
def f68_88 (n : Nat) (s : zσ) : Option zσ :=
    f68_119 n s
def f68_87 (n : Nat) (y0 : Int32) (y1 : Int32) (y2 : Nat) (s : zσ) : Option zσ :=
    if zin? y1 8 = true then
    zlet (sI s y2 (nx y1) y0) fun u1 =>
    f68_88 n u1
    else none
def f68_59 (n : Nat) (x2 : Int32) (x4 : Int32) (y0 : Int32) (s : zσ) : Option zσ :=
    if x2 = (-1 : Int32) then
    f68_88 n s
    else zrd 9 (s.2.2 1004 4) fun a1 =>
    if x4 = (0 : Int32) then
    f68_87 n y0 x2 (a1 + 12) s
    else f68_87 n (-y0) x2 (a1 + 12) s
def f68_42 (n : Nat) (x2 : Int32) (x3 : Int32) (y0 : Int32) (s : zσ) : Option zσ :=
    if x3 = (0 : Int32) then
    f68_59 n x2 y0 (0 : Int32) s
    else yb1 (f67 n (0 : Int32) (2147483647 : Int32) s) fun v2 u1 =>
    f68_59 n x2 y0 v2 u1
def f68_41 (n : Nat) (x2 : Int32) (x3 : Int32) (s : zσ) : Option zσ :=
    f68_42 n x2 x3 (0 : Int32) s
def f68 (n : Nat) (x1 : Int32) (s : zσ) : Option zσ :=
    yb0 (f26 n s) fun u1 =>
    yb1 (f34 n x1 u1) fun v3 u2 =>
    if x1 = (0 : Int32) then
    yb1 (f39 n (61 : Int32) u2) fun v9 u8 =>
    if v9 = (0 : Int32) then
    f68_41 n v3 v9 u8
    else yb1 (f39 n (45 : Int32) u8) fun v11 u10 =>
    if v11 = (0 : Int32) then
    f68_41 n v3 v9 u10
    else f68_42 n v3 v9 (1 : Int32) u10
    else if x1 = (2 : Int32) then
    yb1 (f67 n (0 : Int32) (9 : Int32) u2) fun v5 u4 =>
    if v3 = (-1 : Int32) then
    f68_119 n u4
    else zrd 9 (u4.2.2 1004 4) fun a6 =>
    if zin? v3 4 = true then
    zlet (sI u4 (a6 + 13) (nx v3) v5) fun u7 =>
    f68_119 n u7
    else none
    else f68_119 n u2
def f286_34 (n : Nat) : Nat → Nat → Int32 → zσ → Option zσ
  | 0, _, _, _ => none
  | j + 1, x0, x1, s =>
    if x1 < (8 : Int32) then
    if zin? x1 8 = true then
    zlet (sI s (x0 + 15) (nx x1) (vp_nar .boolean (0 : Int32))) fun u4 =>
    f286_34 n j x0 (x1 + (1 : Int32)) u4
    else none
    else zlet (sF s (x0 + 16) 0 8 (-1 : Int32)) fun u1 =>
    zlet (sF u1 (x0 + 17) 0 6 (-1 : Int32)) fun u2 =>
    zlet (sF u2 (x0 + 18) 0 6 (0 : Int32)) fun u3 =>
    some u3
def f286 (n : Nat) (x0 : Nat) (s : zσ) : Option zσ :=
    zlet (sF s (x0 + 11) 0 9 (0 : Int32)) fun u1 =>
    zlet (sF u1 (x0 + 12) 0 8 (0 : Int32)) fun u2 =>
    zlet (sF u2 (x0 + 13) 0 4 (0 : Int32)) fun u3 =>
    zlet (sF u3 (x0 + 14) 0 8 (0 : Int32)) fun u4 =>
    f286_34 n n x0 (0 : Int32) u4
def f21_207 (n : Nat) (s : zσ) : Option (Int32 × zσ) :=
    some ((s.1 1004 10), s)
def f21_178 (n : Nat) (s : zσ) : Option (Int32 × zσ) :=
    if (s.1 1004 10) = (0 : Int32) then
    if (s.1 1004 12) = (-1 : Int32) then
    f21_207 n s
    else zlet (sI s 1004 10 (7 : Int32)) fun u1 =>
    zlet (sI u1 1004 11 (u1.1 1004 12)) fun u2 =>
    f21_207 n u2
    else f21_207 n s
def f21_172 (n : Nat) (r37 : Int32 → zσ → Option (Int32 × zσ)) (x2 : Int32) (s : zσ) : Option (Int32 × zσ) :=
    r37 (x2 + (1 : Int32)) s
def f21_166 (n : Nat) (r37 : Int32 → zσ → Option (Int32 × zσ)) (r69 : Int32 → Int32 → zσ → Option (Int32 × zσ)) (x2 : Int32) (x3 : Int32) (s : zσ) : Option (Int32 × zσ) :=
    r69 x2 (x3 + (1 : Int32)) s
def f21_123 (n : Nat) (r37 : Int32 → zσ → Option (Int32 × zσ)) (r69 : Int32 → Int32 → zσ → Option (Int32 × zσ)) (x2 : Int32) (x3 : Int32) (s : zσ) : Option (Int32 × zσ) :=
    yb1 (f32 n (2 : Int32) s) fun v2 u1 =>
    f21_166 n r37 r69 x2 x3 u1
def f21_69 (n : Nat) (r37 : Int32 → zσ → Option (Int32 × zσ)) : Nat → Int32 → Int32 → zσ → Option (Int32 × zσ)
  | 0, _, _, _ => none
  | j + 1, x2, x3, s =>
    if x3 < (4000 : Int32) then
    if (s.1 1001 4) = (3 : Int32) then
    f21_172 n r37 x2 s
    else if (s.1 1001 4) = (4 : Int32) then
    f21_172 n r37 x2 s
    else zlet (((s.1 1001 4) - (128 : Int32))) fun v1 =>
    if v1 < (0 : Int32) then
    f21_123 n r37 (f21_69 n r37 j) x2 x3 s
    else if (8 : Int32) < v1 then
    f21_123 n r37 (f21_69 n r37 j) x2 x3 s
    else if v1 = (7 : Int32) then
    yb0 (f33 n s) fun u4 =>
    f21_166 n r37 (f21_69 n r37 j) x2 x3 u4
    else if v1 = (8 : Int32) then
    yb0 (f66 n s) fun u3 =>
    f21_166 n r37 (f21_69 n r37 j) x2 x3 u3
    else yb0 (f68 n v1 s) fun u2 =>
    f21_166 n r37 (f21_69 n r37 j) x2 x3 u2
    else f21_172 n r37 x2 s
def f21_60 (n : Nat) (r37 : Int32 → zσ → Option (Int32 × zσ)) (x2 : Int32) (y0 : Int32) (s : zσ) : Option (Int32 × zσ) :=
    if zbo y0 = true then
    zlet (sI s 1004 7 y0) fun u1 =>
    yb0 (f23 n u1) fun u2 =>
    f21_69 n r37 n x2 (0 : Int32) u2
    else none
def f21_37 (n : Nat) : Nat → Int32 → zσ → Option (Int32 × zσ)
  | 0, _, _ => none
  | j + 1, x2, s =>
    if (2 : Int32) < x2 then
    f21_178 n s
    else if (s.1 1004 10) = (0 : Int32) then
    if x2 = (2 : Int32) then
    f21_60 n (f21_37 n j) x2 (1 : Int32) s
    else f21_60 n (f21_37 n j) x2 (0 : Int32) s
    else f21_178 n s
def f21 (n : Nat) (x1 : Nat) (s : zσ) : Option (Int32 × zσ) :=
    zlet (sR s 1004 4 (some x1)) fun u1 =>
    zlet (sR u1 1004 5 (some (x1 + 19))) fun u2 =>
    zlet (sR u2 1004 6 (some (x1 + 29))) fun u3 =>
    zlet (sI u3 1004 10 (0 : Int32)) fun u4 =>
    zlet (sI u4 1004 12 (-1 : Int32)) fun u5 =>
    yb0 (f286 n x1 u5) fun u6 =>
    f21_37 n n (1 : Int32) u6
def f20 (n : Nat) (s : zσ) : Option (Int32 × zσ) :=
    zrd 9 (s.2.2 1000 4) fun a1 =>
    yb1 (f21 n a1 s) fun v3 u2 =>
    zlet (sI u2 1001 2 (0 : Int32)) fun u4 =>
    if v3 = (0 : Int32) then
    zrd 9 (u4.2.2 1000 3) fun a5 =>
    zrd 9 (u4.2.2 1000 4) fun a6 =>
    zlet (sR u4 1000 3 (some a6)) fun u7 =>
    zlet (sR u7 1000 4 (some a5)) fun u8 =>
    zlet (sI u8 1000 5 (1 : Int32)) fun u9 =>
    zlet (sI u9 1000 6 (-1 : Int32)) fun u10 =>
    zlet (sI u10 1007 11 (0 : Int32)) fun u11 =>
    zrd 9 (u11.2.2 1000 3) fun a12 =>
    if zin? (8 : Int32) 9 = true then
    some ((u11.1 (a12 + 11) (nx (8 : Int32))), u11)
    else none
    else zlet (sI u4 1000 6 (u4.1 1004 11)) fun u13 =>
    some (((-10 : Int32) - v3), u13)
def f69 (n : Nat) (s : zσ) : Option (Int32 × zσ) :=
    some ((s.1 1000 6), s)
def f70 (n : Nat) (x1 : Int32) (s : zσ) : Option (Int32 × zσ) :=
    if x1 < (0 : Int32) then
    some ((-2 : Int32), s)
    else if (10 : Int32) < x1 then
    some ((-2 : Int32), s)
    else if x1 = (9 : Int32) then
    zrd 9 (s.2.2 1000 3) fun a3 =>
    some ((s.1 (a3 + 19) 9), s)
    else if x1 = (10 : Int32) then
    zrd 9 (s.2.2 1000 3) fun a2 =>
    some ((s.1 (a2 + 19) 10), s)
    else zrd 9 (s.2.2 1000 3) fun a1 =>
    if zin? x1 9 = true then
    some ((s.1 (a1 + 11) (nx x1)), s)
    else none
def f71_10 (n : Nat) (s : zσ) : Option (Int32 × zσ) :=
    some ((-1 : Int32), s)
def f71 (n : Nat) (x1 : Int32) (x2 : Int64) (s : zσ) : Option (Int32 × zσ) :=
    if x1 < (0 : Int32) then
    f71_10 n s
    else if x1 < (9 : Int32) then
    zrd 9 (s.2.2 1000 3) fun a1 =>
    yb1 (f36 n a1 x1 x2 s) fun v3 u2 =>
    some (v3, u2)
    else f71_10 n s
def f72 (n : Nat) (x1 : Int32) (s : zσ) : Option (Int32 × zσ) :=
    if x1 < (1 : Int32) then
    some ((-2 : Int32), s)
    else if (3 : Int32) < x1 then
    some ((-2 : Int32), s)
    else zlet ((s.1 1000 7)) fun v1 =>
    zlet (sI s 1000 7 x1) fun u2 =>
    some (v1, u2)
def f75 (n : Nat) (x1 : Nat) (s : zσ) : Option zσ :=
    if zcpo (0 : Int32) (0 : Int32) (Int32.ofNat 8) 8 8 = true then
    zlet (sC s x1 (nx (0 : Int32)) 1010 (nx (0 : Int32)) (nx (Int32.ofNat 8))) fun u1 =>
    zlet (sF u1 1011 0 4 (-1 : Int32)) fun u2 =>
    some u2
    else none
def f76 (n : Nat) (x1 : Nat) (s : zσ) : Option zσ :=
    if zcpo (0 : Int32) (0 : Int32) (Int32.ofNat 4) 4 4 = true then
    zlet (sC s x1 (nx (0 : Int32)) 1015 (nx (0 : Int32)) (nx (Int32.ofNat 4))) fun u1 =>
    zlet (sF u1 1016 0 4 (-1 : Int32)) fun u2 =>
    zlet (sF u2 1017 0 32 (0 : Int32)) fun u3 =>
    zlet (sF u3 1019 0 4 (0 : Int32)) fun u4 =>
    zlet (sF u4 1021 0 4 (0 : Int32)) fun u5 =>
    some u5
    else none
def f77_10 (n : Nat) : Nat → Int32 → zσ → Option zσ
  | 0, _, _ => none
  | j + 1, x1, s =>
    if x1 < (4 : Int32) then
    if zin? x1 4 = true then
    zlet (sI s 1027 (nx x1) (vp_nar .boolean (1 : Int32))) fun u1 =>
    if zin? x1 4 = true then
    zlet (sI u1 1028 (nx x1) (vp_nar .boolean (0 : Int32))) fun u2 =>
    if zin? x1 4 = true then
    zlet (sI u2 1029 (nx x1) (0 : Int32)) fun u3 =>
    f77_10 n j (x1 + (1 : Int32)) u3
    else none
    else none
    else none
    else some s
def f77 (n : Nat) (s : zσ) : Option zσ :=
    zlet (sF s 1023 0 16 (-1 : Int32)) fun u1 =>
    f77_10 n n (0 : Int32) u1
def f78 (n : Nat) (s : zσ) : Option zσ :=
    zlet (sI s 1030 2 (0 : Int32)) fun u1 =>
    zlet (sI u1 1030 3 (0 : Int32)) fun u2 =>
    zlet (sI u2 1030 5 (0 : Int32)) fun u3 =>
    zlet (sI u3 1030 6 (0 : Int32)) fun u4 =>
    zlet (sI u4 1030 7 (0 : Int32)) fun u5 =>
    zlet (sI u5 1030 8 (0 : Int32)) fun u6 =>
    zlet (sI u6 1030 9 (0 : Int32)) fun u7 =>
    some u7
def f79 (n : Nat) (x0 : Nat) (s : zσ) : Option zσ :=
    zlet (sI s x0 3 (0 : Int32)) fun u1 =>
    zlet (sI u1 x0 5 (0 : Int32)) fun u2 =>
    zlet (sI u2 x0 6 (0 : Int32)) fun u3 =>
    zlet (sI u3 x0 7 (0 : Int32)) fun u4 =>
    zlet (sI u4 x0 8 (0 : Int32)) fun u5 =>
    zlet (sI u5 x0 9 (0 : Int32)) fun u6 =>
    zlet (sI u6 x0 10 (0 : Int32)) fun u7 =>
    some u7
def f80 (n : Nat) (x1 : Nat) (s : zσ) : Option zσ :=
    zlet (sI s x1 7 ((s.1 x1 7) + (1 : Int32))) fun u1 =>
    zrd 0 (u1.2.2 1007 10) fun a2 =>
    zrd 9 (u1.2.2 1007 8) fun a3 =>
    if zin? (u1.1 x1 0) 8 = true then
    if zin? (u1.1 (a3 + 16) (nx (u1.1 x1 0))) 700 = true then
    zlet ((u1.1 (a2 + 3) (nx (u1.1 (a3 + 16) (nx (u1.1 x1 0)))))) fun v4 =>
    if v4 = (-1 : Int32) then
    zlet (sI u1 x1 8 ((u1.1 x1 8) + (1 : Int32))) fun u12 =>
    if zin? (((2 : Int32) * (u12.1 x1 0)) + (1 : Int32)) 16 = true then
    zlet (sI u12 1023 (nx (((2 : Int32) * (u12.1 x1 0)) + (1 : Int32))) (-1 : Int32)) fun u13 =>
    some u13
    else none
    else zlet (sI u1 x1 3 (1 : Int32)) fun u5 =>
    zrd 9 (u5.2.2 1007 8) fun a6 =>
    if zin? (u5.1 x1 0) 8 = true then
    zlet (sI u5 x1 4 (u5.1 (a6 + 14) (nx (u5.1 x1 0)))) fun u7 =>
    zlet (sI u7 x1 10 (0 : Int32)) fun u8 =>
    if zin? (0 : Int32) 9 = true then
    zlet (sI u8 (x1 + 1) (nx (0 : Int32)) v4) fun u9 =>
    zlet (sI u9 1007 15 ((u9.1 1007 15) + (1 : Int32))) fun u10 =>
    zlet (sI u10 x1 11 ((u9.1 1007 15) + (1 : Int32))) fun u11 =>
    some u11
    else none
    else none
    else none
    else none
def f74_140 (n : Nat) (r113 : Nat → Int32 → zσ → Option zσ) (x1 : Nat) (x3 : Int32) (s : zσ) : Option zσ :=
    r113 x1 (x3 + (1 : Int32)) s
def f74_113 (n : Nat) : Nat → Nat → Int32 → zσ → Option zσ
  | 0, _, _, _ => none
  | j + 1, x1, x3, s =>
    if x3 < (s.1 1007 12) then
    if zin? x3 8 = true then
    if (s.1 (x1 + 15) (nx x3)) = (0 : Int32) then
    f74_140 n (f74_113 n j) x1 x3 s
    else if zin? x3 8 = true then
    zrd 8 (s.2.2 1008 (nx x3)) fun a1 =>
    yb0 (f80 n a1 s) fun u2 =>
    f74_140 n (f74_113 n j) x1 x3 u2
    else none
    else none
    else some s
def f74_90 (n : Nat) : Nat → Nat → Int32 → zσ → Option zσ
  | 0, _, _, _ => none
  | j + 1, x1, x3, s =>
    if x3 < (8 : Int32) then
    if zin? x3 8 = true then
    zrd 8 (s.2.2 1008 (nx x3)) fun a1 =>
    yb0 (f79 n a1 s) fun u2 =>
    f74_90 n j x1 (x3 + (1 : Int32)) u2
    else none
    else f74_113 n n x1 (0 : Int32) s
def f74 (n : Nat) (x1 : Nat) (x2 : Int32) (s : zσ) : Option zσ :=
    zlet (sR s 1007 8 (some x1)) fun u1 =>
    zlet (sR u1 1007 9 (some (x1 + 19))) fun u2 =>
    zlet (sR u2 1007 10 (some (x1 + 29))) fun u3 =>
    if zin? (8 : Int32) 9 = true then
    zlet (sI u3 1007 12 (u3.1 (x1 + 11) (nx (8 : Int32)))) fun u4 =>
    zlet (sI u4 1007 13 x2) fun u5 =>
    zlet (sI u5 1007 11 (1 : Int32)) fun u6 =>
    zlet (sI u6 1007 14 (0 : Int32)) fun u7 =>
    zlet (sI u7 1007 15 (0 : Int32)) fun u8 =>
    yb0 (f75 n (x1 + 12) u8) fun u9 =>
    yb0 (f76 n (x1 + 13) u9) fun u10 =>
    yb0 (f77 n u10) fun u11 =>
    yb0 (f78 n u11) fun u12 =>
    f74_90 n n x1 (0 : Int32) u12
    else none
def f81_28 (n : Nat) (r4 : Int32 → Int32 → Int32 → zσ → Option (Int32 × zσ)) (x1 : Int32) (x2 : Int32) (x3 : Int32) (s : zσ) : Option (Int32 × zσ) :=
    r4 x1 x2 (x3 + (1 : Int32)) s
def f81_4 (n : Nat) : Nat → Int32 → Int32 → Int32 → zσ → Option (Int32 × zσ)
  | 0, _, _, _, _ => none
  | j + 1, x1, x2, x3, s =>
    if x3 < (s.1 1007 12) then
    if zin? x3 8 = true then
    zrd 8 (s.2.2 1008 (nx x3)) fun a1 =>
    if (s.1 a1 3) = x1 then
    f81_28 n (f81_4 n j) x1 (x2 + (1 : Int32)) x3 s
    else f81_28 n (f81_4 n j) x1 x2 x3 s
    else none
    else some (x2, s)
def f81 (n : Nat) (x1 : Int32) (s : zσ) : Option (Int32 × zσ) :=
    f81_4 n n x1 (0 : Int32) (0 : Int32) s
def f73 (n : Nat) (s : zσ) : Option (Int32 × zσ) :=
    if (s.1 1000 5) = (0 : Int32) then
    some ((-3 : Int32), s)
    else zrd 9 (s.2.2 1000 3) fun a1 =>
    yb0 (f74 n a1 (s.1 1000 7) s) fun u2 =>
    yb1 (f81 n (1 : Int32) u2) fun v4 u3 =>
    some (v4, u3)
def f85_44 (n : Nat) (r4 : Int32 → Int32 → zσ → Option (Int32 × zσ)) (x1 : Int32) (x2 : Int32) (s : zσ) : Option (Int32 × zσ) :=
    r4 x1 (x2 + (1 : Int32)) s
def f85_42 (n : Nat) (r4 : Int32 → Int32 → zσ → Option (Int32 × zσ)) (x2 : Int32) (s : zσ) : Option (Int32 × zσ) :=
    f85_44 n r4 x2 x2 s
def f85_4 (n : Nat) : Nat → Int32 → Int32 → zσ → Option (Int32 × zσ)
  | 0, _, _, _ => none
  | j + 1, x1, x2, s =>
    if x2 < (Int32.ofNat 16) then
    if zin? x2 16 = true then
    if (s.1 1023 (nx x2)) < (0 : Int32) then
    f85_44 n (f85_4 n j) x1 x2 s
    else if x1 = (-1 : Int32) then
    f85_42 n (f85_4 n j) x2 s
    else if zin? x2 16 = true then
    if zin? x1 16 = true then
    if (s.1 1023 (nx x2)) < (s.1 1023 (nx x1)) then
    f85_42 n (f85_4 n j) x2 s
    else f85_44 n (f85_4 n j) x1 x2 s
    else none
    else none
    else none
    else some (x1, s)
def f85 (n : Nat) (s : zσ) : Option (Int32 × zσ) :=
    f85_4 n n (-1 : Int32) (0 : Int32) s
def f86_68 (n : Nat) (y0 : Int32) (y1 : Int32) (s : zσ) : Option zσ :=
    if zin? y1 16 = true then
    zlet (sI s 1023 (nx y1) y0) fun u1 =>
    some u1
    else none
def f86_50 (n : Nat) (x1 : Int32) (x2 : Int64) (y0 : Int32) (s : zσ) : Option zσ :=
    if y0 = (0 : Int32) then
    f86_68 n (x2.toInt32) x1 s
    else f86_68 n (-1 : Int32) x1 s
def f86_45 (n : Nat) (x1 : Int32) (x2 : Int64) (s : zσ) : Option zσ :=
    f86_50 n x1 x2 (1 : Int32) s
def f86 (n : Nat) (x1 : Int32) (s : zσ) : Option zσ :=
    if zin? x1 16 = true then
    if zin? x1 16 = true then
    zlet ((((s.1 1023 (nx x1)).toInt64) + ((s.1 1024 (nx x1)).toInt64))) fun v1 =>
    if zin? x1 16 = true then
    if (s.1 1024 (nx x1)) = (0 : Int32) then
    f86_45 n x1 v1 s
    else if zin? x1 16 = true then
    if ((s.1 1025 (nx x1)).toInt64) < v1 then
    f86_45 n x1 v1 s
    else if (1000000000 : Int64) < v1 then
    f86_45 n x1 v1 s
    else f86_50 n x1 v1 (0 : Int32) s
    else none
    else none
    else none
    else none
def f87 (n : Nat) (x1 : Int32) (s : zσ) : Option (Int32 × zσ) :=
    if zin? (x1 / (2 : Int32)) 8 = true then
    zrd 8 (s.2.2 1008 (nx (x1 / (2 : Int32)))) fun a1 =>
    if (x1 - x1 / (2 : Int32) * (2 : Int32)) = (0 : Int32) then
    if (s.1 a1 3) = (0 : Int32) then
    yb0 (f80 n a1 s) fun u8 =>
    some ((0 : Int32), u8)
    else if (s.1 a1 5) < (3 : Int32) then
    zlet (sI s a1 5 ((s.1 a1 5) + (1 : Int32))) fun u7 =>
    some ((0 : Int32), u7)
    else zlet (sI s a1 6 ((s.1 a1 6) + (1 : Int32))) fun u6 =>
    some ((0 : Int32), u6)
    else if (s.1 a1 3) = (2 : Int32) then
    zlet (sI s a1 3 (1 : Int32)) fun u3 =>
    zlet (sI u3 1007 15 ((u3.1 1007 15) + (1 : Int32))) fun u4 =>
    zlet (sI u4 a1 11 ((u3.1 1007 15) + (1 : Int32))) fun u5 =>
    some ((0 : Int32), u5)
    else if (s.1 a1 3) = (4 : Int32) then
    zlet (sI s a1 3 (3 : Int32)) fun u2 =>
    some ((0 : Int32), u2)
    else some ((7 : Int32), s)
    else none
def f84_2 (n : Nat) : Nat → Int32 → zσ → Option zσ
  | 0, _, _ => none
  | j + 1, x1, s =>
    if x1 < (1000 : Int32) then
    yb1 (f85 n s) fun v2 u1 =>
    if v2 = (-1 : Int32) then
    some u1
    else if zin? v2 16 = true then
    if (u1.1 1007 14) < (u1.1 1023 (nx v2)) then
    some u1
    else yb0 (f86 n v2 u1) fun u3 =>
    yb1 (f87 n v2 u3) fun v5 u4 =>
    f84_2 n j (x1 + (1 : Int32)) u4
    else none
    else some s
def f84 (n : Nat) (s : zσ) : Option zσ :=
    f84_2 n n (0 : Int32) s
def f88_140 (n : Nat) (r4 : Int32 → Int32 → zσ → Option (Int32 × zσ)) (x1 : Int32) (x2 : Int32) (s : zσ) : Option (Int32 × zσ) :=
    r4 x1 (x2 + (1 : Int32)) s
def f88_114 (n : Nat) (r4 : Int32 → Int32 → zσ → Option (Int32 × zσ)) (r36 : Int32 → Int32 → Nat → Int32 → Int32 → zσ → Option (Int32 × zσ)) (x1 : Int32) (x2 : Int32) (x3 : Nat) (x4 : Int32) (x5 : Int32) (s : zσ) : Option (Int32 × zσ) :=
    r36 x1 x2 x3 x4 (x5 + (1 : Int32)) s
def f88_95 (n : Nat) (r4 : Int32 → Int32 → zσ → Option (Int32 × zσ)) (r36 : Int32 → Int32 → Nat → Int32 → Int32 → zσ → Option (Int32 × zσ)) (x1 : Int32) (x2 : Int32) (x3 : Nat) (x4 : Int32) (x5 : Int32) (x6 : Nat) (y0 : Int32) (s : zσ) : Option (Int32 × zσ) :=
    if (s.1 x6 3) = (1 : Int32) then
    if y0 = (0 : Int32) then
    f88_114 n r4 r36 x1 x2 x3 x4 x5 s
    else f88_114 n r4 r36 x1 x2 x3 (x4 + (1 : Int32)) x5 s
    else f88_114 n r4 r36 x1 x2 x3 x4 x5 s
def f88_94 (n : Nat) (r4 : Int32 → Int32 → zσ → Option (Int32 × zσ)) (r36 : Int32 → Int32 → Nat → Int32 → Int32 → zσ → Option (Int32 × zσ)) (x1 : Int32) (x2 : Int32) (x3 : Nat) (x4 : Int32) (x5 : Int32) (x6 : Nat) (s : zσ) : Option (Int32 × zσ) :=
    f88_95 n r4 r36 x1 x2 x3 x4 x5 x6 (0 : Int32) s
def f88_90 (n : Nat) (r4 : Int32 → Int32 → zσ → Option (Int32 × zσ)) (r36 : Int32 → Int32 → Nat → Int32 → Int32 → zσ → Option (Int32 × zσ)) (x1 : Int32) (x2 : Int32) (x3 : Nat) (x4 : Int32) (x5 : Int32) (x6 : Nat) (s : zσ) : Option (Int32 × zσ) :=
    f88_95 n r4 r36 x1 x2 x3 x4 x5 x6 (1 : Int32) s
def f88_36 (n : Nat) (r4 : Int32 → Int32 → zσ → Option (Int32 × zσ)) : Nat → Int32 → Int32 → Nat → Int32 → Int32 → zσ → Option (Int32 × zσ)
  | 0, _, _, _, _, _, _ => none
  | j + 1, x1, x2, x3, x4, x5, s =>
    if x5 < (s.1 1007 12) then
    if zin? x5 8 = true then
    zrd 8 (s.2.2 1008 (nx x5)) fun a2 =>
    if (s.1 a2 4) < (s.1 x3 4) then
    f88_90 n r4 (f88_36 n r4 j) x1 x2 x3 x4 x5 a2 s
    else if (s.1 a2 4) = (s.1 x3 4) then
    if (s.1 a2 11) < (s.1 x3 11) then
    f88_90 n r4 (f88_36 n r4 j) x1 x2 x3 x4 x5 a2 s
    else f88_94 n r4 (f88_36 n r4 j) x1 x2 x3 x4 x5 a2 s
    else f88_94 n r4 (f88_36 n r4 j) x1 x2 x3 x4 x5 a2 s
    else none
    else if x4 < (s.1 1007 13) then
    if zin? x4 8 = true then
    zlet (sI s 1034 (nx x4) x2) fun u1 =>
    f88_140 n r4 (x1 + (1 : Int32)) x2 u1
    else none
    else f88_140 n r4 x1 x2 s
def f88_4 (n : Nat) : Nat → Int32 → Int32 → zσ → Option (Int32 × zσ)
  | 0, _, _, _ => none
  | j + 1, x1, x2, s =>
    if x2 < (s.1 1007 12) then
    if zin? x2 8 = true then
    zrd 8 (s.2.2 1008 (nx x2)) fun a1 =>
    if (s.1 a1 3) = (1 : Int32) then
    f88_36 n (f88_4 n j) n x1 x2 a1 (0 : Int32) (0 : Int32) s
    else f88_140 n (f88_4 n j) x1 x2 s
    else none
    else some (x1, s)
def f88 (n : Nat) (s : zσ) : Option (Int32 × zσ) :=
    f88_4 n n (0 : Int32) (0 : Int32) s
def f92 (n : Nat) (x1 : Int32) (s : zσ) : Option (Int32 × zσ) :=
    if zin? x1 4 = true then
    if (s.1 1011 (nx x1)) = (-1 : Int32) then
    some ((-1 : Int32), s)
    else if zin? x1 4 = true then
    if zin? (s.1 1011 (nx x1)) 4 = true then
    some ((s.1 1012 (nx (s.1 1011 (nx x1)))), s)
    else none
    else none
    else none
def f93_17 (n : Nat) (s : zσ) : Option (Int32 × zσ) :=
    if zin? (s.1 1007 16) 64 = true then
    some ((s.1 1033 (nx (s.1 1007 16))), s)
    else none
def f93 (n : Nat) (s : zσ) : Option (Int32 × zσ) :=
    if (0 : Int32) < (s.1 1007 16) then
    zlet (sI s 1007 16 ((s.1 1007 16) - (1 : Int32))) fun u1 =>
    f93_17 n u1
    else f93_17 n s
def f94_31 (n : Nat) (s : zσ) : Option (Int32 × zσ) :=
    some ((2 : Int32), s)
def f94 (n : Nat) (x1 : Int32) (x2 : Int32) (s : zσ) : Option (Int32 × zσ) :=
    if zin? x1 4 = true then
    if (s.1 1011 (nx x1)) = (-1 : Int32) then
    some ((1 : Int32), s)
    else if x2 < (0 : Int32) then
    f94_31 n s
    else if zin? x1 4 = true then
    if zin? (s.1 1011 (nx x1)) 4 = true then
    if x2 < (s.1 1012 (nx (s.1 1011 (nx x1)))) then
    some ((0 : Int32), s)
    else f94_31 n s
    else none
    else none
    else none
def f95 (n : Nat) (x1 : Int32) (x2 : Int32) (s : zσ) : Option (Int32 × zσ) :=
    if zin? x1 4 = true then
    if zin? (((s.1 1011 (nx x1)) * (20 : Int32)) + x2) 80 = true then
    some ((s.1 1013 (nx (((s.1 1011 (nx x1)) * (20 : Int32)) + x2))), s)
    else none
    else none
def f96_180 (n : Nat) (x1 : Int64) (x3 : Int64) (s : zσ) : Option (Int64 × zσ) :=
    if x3 < x1 then
    some ((1 : Int64), s)
    else some ((0 : Int64), s)
def f96 (n : Nat) (x0 : Int32) (x1 : Int64) (x3 : Int64) (s : zσ) : Option (Int64 × zσ) :=
    if x0 = (37 : Int32) then
    if x3 = (0 : Int64) then
    some ((0 : Int64), s)
    else if ¬ x3 = 0 then
    some ((x1 - x1 / x3 * x3), s)
    else none
    else if x0 = (42 : Int32) then
    some ((x1 * x3), s)
    else if x0 = (43 : Int32) then
    some ((x1 + x3), s)
    else if x0 = (45 : Int32) then
    some ((x1 - x3), s)
    else if x0 = (47 : Int32) then
    if x3 = (0 : Int64) then
    some ((0 : Int64), s)
    else if ¬ x3 = 0 then
    some ((x1 / x3), s)
    else none
    else if x0 = (60 : Int32) then
    if x1 < x3 then
    some ((1 : Int64), s)
    else some ((0 : Int64), s)
    else if x0 = (61 : Int32) then
    if x1 = x3 then
    some ((1 : Int64), s)
    else some ((0 : Int64), s)
    else f96_180 n x1 x3 s
def f91_265 (n : Nat) (x4 : Int64) (s : zσ) : Option (Int32 × zσ) :=
    if x4 = ((x4.toInt32).toInt64) then
    if (s.1 1007 16) < (Int32.ofNat 64) then
    zlet (sI s 1007 16 ((s.1 1007 16) + (1 : Int32))) fun u1 =>
    if zin? (s.1 1007 16) 64 = true then
    zlet (sI u1 1033 (nx (s.1 1007 16)) (x4.toInt32)) fun u2 =>
    some ((0 : Int32), u2)
    else none
    else some ((0 : Int32), s)
    else some ((5 : Int32), s)
def f91_255 (n : Nat) (x2 : Int32) (x8 : Int64) (x10 : Int64) (s : zσ) : Option (Int32 × zσ) :=
    yb1 (f96 n x2 x10 x8 s) fun v2 u1 =>
    f91_265 n v2 u1
def f91_115 (n : Nat) (y0 : Int64) (s : zσ) : Option (Int32 × zσ) :=
    f91_265 n y0 s
def f91 (n : Nat) (x1 : Nat) (x2 : Int32) (x3 : Int32) (s : zσ) : Option (Int32 × zσ) :=
    if x2 = (1 : Int32) then
    if x3 < (8 : Int32) then
    if zin? x3 8 = true then
    f91_115 n ((s.1 1010 (nx x3)).toInt64) s
    else none
    else if zin? ((((3 : Int32) * (s.1 x1 10)) + x3) - (8 : Int32)) 27 = true then
    f91_115 n ((s.1 (x1 + 2) (nx ((((3 : Int32) * (s.1 x1 10)) + x3) - (8 : Int32)))).toInt64) s
    else none
    else if x2 = (2 : Int32) then
    zlet ((x3.toInt64)) fun v1 =>
    f91_265 n v1 s
    else if x2 = (5 : Int32) then
    yb1 (f93 n s) fun v3 u2 =>
    zlet ((-(v3.toInt64))) fun v4 =>
    f91_265 n v4 u2
    else if x2 = (91 : Int32) then
    yb1 (f93 n s) fun v6 u5 =>
    yb1 (f94 n x3 v6 u5) fun v8 u7 =>
    if v8 = (0 : Int32) then
    yb1 (f95 n x3 v6 u7) fun v10 u9 =>
    zlet ((v10.toInt64)) fun v11 =>
    f91_265 n v11 u9
    else some (v8, u7)
    else if x2 = (142 : Int32) then
    yb1 (f92 n x3 s) fun v13 u12 =>
    zlet ((v13.toInt64)) fun v14 =>
    if v14 = (-1 : Int64) then
    some ((1 : Int32), u12)
    else f91_265 n v14 u12
    else if x2 = (143 : Int32) then
    zlet (((s.1 1007 14).toInt64)) fun v15 =>
    f91_265 n v15 s
    else if x2 = (144 : Int32) then
    if zin? x3 8 = true then
    zrd 8 (s.2.2 1008 (nx x3)) fun a16 =>
    zlet (((s.1 a16 3).toInt64)) fun v17 =>
    f91_265 n v17 s
    else none
    else yb1 (f93 n s) fun v19 u18 =>
    zlet ((v19.toInt64)) fun v20 =>
    yb1 (f93 n u18) fun v22 u21 =>
    zlet ((v22.toInt64)) fun v23 =>
    if v20 = (0 : Int64) then
    if x2 = (47 : Int32) then
    some ((4 : Int32), u21)
    else if x2 = (37 : Int32) then
    some ((4 : Int32), u21)
    else f91_255 n x2 v20 v23 u21
    else f91_255 n x2 v20 v23 u21
def f90_15 (n : Nat) : Nat → Nat → Int32 → Int32 → zσ → Option (Int32 × zσ)
  | 0, _, _, _, _ => none
  | j + 1, x1, x2, x3, s =>
    zrd 6 (s.2.2 1007 9) fun a1 =>
    if zin? x2 200 = true then
    if x3 < (s.1 (a1 + 5) (nx x2)) then
    zrd 6 (s.2.2 1007 9) fun a2 =>
    if zin? x3 400 = true then
    zrd 6 (s.2.2 1007 9) fun a3 =>
    if zin? x3 400 = true then
    yb1 (f91 n x1 (s.1 (a2 + 8) (nx x3)) (s.1 (a3 + 9) (nx x3)) s) fun v5 u4 =>
    if v5 = (0 : Int32) then
    f90_15 n j x1 x2 (x3 + (1 : Int32)) u4
    else some (v5, u4)
    else none
    else none
    else some ((0 : Int32), s)
    else none
def f90 (n : Nat) (x1 : Nat) (x2 : Int32) (s : zσ) : Option (Int32 × zσ) :=
    zlet (sI s 1007 16 (0 : Int32)) fun u1 =>
    zrd 6 (u1.2.2 1007 9) fun a2 =>
    if zin? x2 200 = true then
    zlet ((u1.1 (a2 + 4) (nx x2))) fun v3 =>
    f90_15 n n x1 x2 v3 u1
    else none
def f98 (n : Nat) (x1 : Nat) (x2 : Int32) (x3 : Int32) (s : zσ) : Option zσ :=
    if x2 < (8 : Int32) then
    if x2 < (0 : Int32) then
    some s
    else if zin? x2 8 = true then
    zlet (sI s 1010 (nx x2) x3) fun u1 =>
    some u1
    else none
    else if zin? ((((3 : Int32) * (s.1 x1 10)) + x2) - (8 : Int32)) 27 = true then
    zlet (sI s (x1 + 2) (nx ((((3 : Int32) * (s.1 x1 10)) + x2) - (8 : Int32))) x3) fun u2 =>
    some u2
    else none
def f99 (n : Nat) (x1 : Int32) (x2 : Int32) (x3 : Int32) (s : zσ) : Option (Int32 × zσ) :=
    yb1 (f94 n x1 x2 s) fun v2 u1 =>
    if v2 = (0 : Int32) then
    if zin? x1 4 = true then
    if zin? (((u1.1 1011 (nx x1)) * (20 : Int32)) + x2) 80 = true then
    zlet (sI u1 1013 (nx (((u1.1 1011 (nx x1)) * (20 : Int32)) + x2)) x3) fun u3 =>
    some (v2, u3)
    else none
    else none
    else some (v2, u1)
def f101_40 (n : Nat) (s : zσ) : Option (Int32 × zσ) :=
    some ((1 : Int32), s)
def f101 (n : Nat) (x1 : Int32) (s : zσ) : Option (Int32 × zσ) :=
    if zin? (0 : Int32) 4 = true then
    if (s.1 1011 (nx (0 : Int32))) = x1 then
    f101_40 n s
    else if zin? (1 : Int32) 4 = true then
    if (s.1 1011 (nx (1 : Int32))) = x1 then
    f101_40 n s
    else if zin? (2 : Int32) 4 = true then
    if (s.1 1011 (nx (2 : Int32))) = x1 then
    f101_40 n s
    else if zin? (3 : Int32) 4 = true then
    if (s.1 1011 (nx (3 : Int32))) = x1 then
    f101_40 n s
    else some ((0 : Int32), s)
    else none
    else none
    else none
    else none
def f100_67 (n : Nat) (x1 : Int32) (x2 : Int32) (x3 : Int32) (s : zσ) : Option (Int32 × zσ) :=
    if zin? x1 4 = true then
    zlet (sI s 1011 (nx x1) x3) fun u1 =>
    if zin? x3 4 = true then
    zlet (sI u1 1012 (nx x3) x2) fun u2 =>
    if zrgo (x3 * (20 : Int32)) ((x3 * (20 : Int32)) + x2) 80 = true then
    zlet (sF u2 1013 (nx (x3 * (20 : Int32))) (nx ((x3 * (20 : Int32)) + x2)) (0 : Int32)) fun u3 =>
    some ((0 : Int32), u3)
    else none
    else none
    else none
def f100_44 (n : Nat) : Nat → Int32 → Int32 → Int32 → Int32 → zσ → Option (Int32 × zσ)
  | 0, _, _, _, _, _ => none
  | j + 1, x1, x2, x3, x4, s =>
    if x4 < (3 : Int32) then
    yb1 (f101 n x3 s) fun v2 u1 =>
    if v2 = (0 : Int32) then
    f100_67 n x1 x2 x3 u1
    else f100_44 n j x1 x2 (x3 + (1 : Int32)) (x4 + (1 : Int32)) u1
    else f100_67 n x1 x2 x3 s
def f100 (n : Nat) (x1 : Int32) (x2 : Int32) (s : zσ) : Option (Int32 × zσ) :=
    if x2 < (0 : Int32) then
    some ((3 : Int32), s)
    else if (20 : Int32) < x2 then
    some ((3 : Int32), s)
    else if (s.1 1009 4) < (4000 : Int32) then
    zlet (sI s 1009 4 ((s.1 1009 4) + (1 : Int32))) fun u1 =>
    if zin? x1 4 = true then
    zlet (sI u1 1011 (nx x1) (-1 : Int32)) fun u2 =>
    f100_44 n n x1 x2 (0 : Int32) (0 : Int32) u2
    else none
    else some ((3 : Int32), s)
def f104_20 (n : Nat) (s : zσ) : Option (Int32 × zσ) :=
    zlet (sI s 1030 2 ((s.1 1030 2) + (1 : Int32))) fun u1 =>
    some ((0 : Int32), u1)
def f104 (n : Nat) (x1 : Int32) (s : zσ) : Option (Int32 × zσ) :=
    if (s.1 1030 2) < (200 : Int32) then
    if zin? (s.1 1030 2) 200 = true then
    zlet (sI s 1031 (nx (s.1 1030 2)) x1) fun u1 =>
    f104_20 n u1
    else none
    else f104_20 n s
def f105 (n : Nat) (x1 : Nat) (x2 : Int32) (s : zσ) : Option (Int32 × zσ) :=
    if (s.1 x1 10) < (8 : Int32) then
    zlet (sI s x1 10 ((s.1 x1 10) + (1 : Int32))) fun u1 =>
    if zcpo (0 : Int32) ((3 : Int32) * (u1.1 x1 10)) (3 : Int32) 64 27 = true then
    zlet (sC u1 1033 (nx (0 : Int32)) (x1 + 2) (nx ((3 : Int32) * (u1.1 x1 10))) (nx (3 : Int32))) fun u2 =>
    zlet (sI u2 1030 8 ((u2.1 1030 8) + (1 : Int32))) fun u3 =>
    zrd 9 (u3.2.2 1007 8) fun a4 =>
    if zin? x2 6 = true then
    zlet (sI u3 1007 17 (u3.1 (a4 + 17) (nx x2))) fun u5 =>
    some ((-2 : Int32), u5)
    else none
    else none
    else some ((6 : Int32), s)
def f109_26 (n : Nat) (r4 : Int32 → Int32 → Int32 → Int32 → zσ → Option (Int32 × zσ)) (x0 : Int32) (x1 : Int32) (x2 : Int32) (x3 : Int32) (s : zσ) : Option (Int32 × zσ) :=
    r4 x0 x1 x2 (x3 + (1 : Int32)) s
def f109_4 (n : Nat) : Nat → Int32 → Int32 → Int32 → Int32 → zσ → Option (Int32 × zσ)
  | 0, _, _, _, _, _ => none
  | j + 1, x0, x1, x2, x3, s =>
    if x3 < (4 : Int32) then
    if ((x0 >>> (((4 : Int32) * x3) &&& 31)) &&& (15 : Int32)) = (x1 + (1 : Int32)) then
    f109_26 n (f109_4 n j) x0 x1 (x2 + (1 : Int32)) x3 s
    else f109_26 n (f109_4 n j) x0 x1 x2 x3 s
    else some (x2, s)
def f109 (n : Nat) (x0 : Int32) (x1 : Int32) (s : zσ) : Option (Int32 × zσ) :=
    f109_4 n n x0 x1 (0 : Int32) (0 : Int32) s
def f108_2 (n : Nat) : Nat → Int32 → Int32 → zσ → Option (Int32 × zσ)
  | 0, _, _, _ => none
  | j + 1, x1, x2, s =>
    if x2 < (4 : Int32) then
    if zin? x2 4 = true then
    yb1 (f109 n x1 x2 s) fun v2 u1 =>
    if (s.1 1015 (nx x2)) < v2 then
    some ((0 : Int32), u1)
    else f108_2 n j x1 (x2 + (1 : Int32)) u1
    else none
    else some ((1 : Int32), s)
def f108 (n : Nat) (x1 : Int32) (s : zσ) : Option (Int32 × zσ) :=
    f108_2 n n x1 (0 : Int32) s
def f110_4 (n : Nat) : Nat → Int32 → Int32 → Int32 → zσ → Option (Int32 × zσ)
  | 0, _, _, _, _ => none
  | j + 1, x1, x2, x3, s =>
    if x3 < (8 : Int32) then
    if zin? ((x1 * (8 : Int32)) + x3) 32 = true then
    zlet ((x2 + (s.1 1017 (nx ((x1 * (8 : Int32)) + x3))))) fun v1 =>
    f110_4 n j x1 v1 (x3 + (1 : Int32)) s
    else none
    else some (x2, s)
def f110 (n : Nat) (x1 : Int32) (s : zσ) : Option (Int32 × zσ) :=
    f110_4 n n x1 (0 : Int32) (0 : Int32) s
def f112_16 (n : Nat) (s : zσ) : Option (Int32 × zσ) :=
    some ((1 : Int32), s)
def f112 (n : Nat) (x0 : Nat) (s : zσ) : Option (Int32 × zσ) :=
    if (s.1 x0 3) = (3 : Int32) then
    f112_16 n s
    else if (s.1 x0 3) = (4 : Int32) then
    f112_16 n s
    else some ((0 : Int32), s)
def f113_33 (n : Nat) (s : zσ) : Option (Int32 × zσ) :=
    some ((1 : Int32), s)
def f113 (n : Nat) (x0 : Nat) (x1 : Nat) (s : zσ) : Option (Int32 × zσ) :=
    if (s.1 x0 4) < (s.1 x1 4) then
    f113_33 n s
    else if (s.1 x0 4) = (s.1 x1 4) then
    if (s.1 x0 12) < (s.1 x1 12) then
    f113_33 n s
    else some ((0 : Int32), s)
    else some ((0 : Int32), s)
def f111_80 (n : Nat) (r2 : Int32 → Nat → Int32 → zσ → Option (Int32 × zσ)) (x1 : Int32) (x2 : Nat) (x3 : Int32) (s : zσ) : Option (Int32 × zσ) :=
    r2 x1 x2 (x3 + (1 : Int32)) s
def f111_2 (n : Nat) : Nat → Int32 → Nat → Int32 → zσ → Option (Int32 × zσ)
  | 0, _, _, _, _ => none
  | j + 1, x1, x2, x3, s =>
    if x3 < (s.1 1007 12) then
    if zin? x3 8 = true then
    zrd 8 (s.2.2 1008 (nx x3)) fun a1 =>
    if zin? (s.1 a1 10) 9 = true then
    zlet ((s.1 (a1 + 1) (nx (s.1 a1 10)))) fun v2 =>
    yb1 (f112 n a1 s) fun v4 u3 =>
    if v4 = (0 : Int32) then
    f111_80 n (f111_2 n j) x1 x2 x3 u3
    else yb1 (f113 n a1 x2 u3) fun v6 u5 =>
    if v6 = (0 : Int32) then
    f111_80 n (f111_2 n j) x1 x2 x3 u5
    else zrd 6 (u5.2.2 1007 9) fun a7 =>
    if zin? v2 200 = true then
    if (u5.1 (a7 + 1) (nx v2)) = (161 : Int32) then
    zrd 6 (u5.2.2 1007 9) fun a8 =>
    if zin? v2 200 = true then
    if (u5.1 (a8 + 2) (nx v2)) = x1 then
    some ((1 : Int32), u5)
    else f111_80 n (f111_2 n j) x1 x2 x3 u5
    else none
    else f111_80 n (f111_2 n j) x1 x2 x3 u5
    else none
    else none
    else none
    else some ((0 : Int32), s)
def f111 (n : Nat) (x1 : Int32) (x2 : Nat) (s : zσ) : Option (Int32 × zσ) :=
    f111_2 n n x1 x2 (0 : Int32) s
def f107 (n : Nat) (x1 : Nat) (x2 : Int32) (s : zσ) : Option (Int32 × zσ) :=
    zrd 6 (s.2.2 1007 9) fun a1 =>
    if zin? x2 200 = true then
    zlet ((s.1 (a1 + 2) (nx x2))) fun v2 =>
    zrd 6 (s.2.2 1007 9) fun a3 =>
    if zin? x2 200 = true then
    if (s.1 (a3 + 1) (nx x2)) = (159 : Int32) then
    yb1 (f108 n v2 s) fun v5 u4 =>
    if v5 = 0 ∨ v5 = 1 then
    some (v5, u4)
    else none
    else if (s.1 (a3 + 1) (nx x2)) = (161 : Int32) then
    if zin? v2 4 = true then
    if (s.1 1016 (nx v2)) = (-1 : Int32) then
    yb1 (f110 n v2 s) fun v7 u6 =>
    if v7 = (0 : Int32) then
    some ((1 : Int32), u6)
    else some ((0 : Int32), u6)
    else some ((0 : Int32), s)
    else none
    else if (s.1 (a3 + 1) (nx x2)) = (165 : Int32) then
    if zin? v2 4 = true then
    if (0 : Int32) < (s.1 1019 (nx v2)) then
    some ((1 : Int32), s)
    else some ((0 : Int32), s)
    else none
    else if zin? v2 4 = true then
    if (s.1 1016 (nx v2)) = (-1 : Int32) then
    yb1 (f111 n v2 x1 s) fun v9 u8 =>
    if v9 = (0 : Int32) then
    some ((1 : Int32), u8)
    else some ((0 : Int32), u8)
    else some ((0 : Int32), s)
    else none
    else none
    else none
def f115_2 (n : Nat) : Nat → Int32 → Int32 → zσ → Option zσ
  | 0, _, _, _ => none
  | j + 1, x1, x2, s =>
    if x2 < (4 : Int32) then
    if zin? x2 4 = true then
    yb1 (f109 n x1 x2 s) fun v2 u1 =>
    if zin? x2 4 = true then
    zlet (sI u1 1015 (nx x2) ((s.1 1015 (nx x2)) - v2)) fun u3 =>
    f115_2 n j x1 (x2 + (1 : Int32)) u3
    else none
    else none
    else some s
def f115 (n : Nat) (x1 : Int32) (s : zσ) : Option zσ :=
    f115_2 n n x1 (0 : Int32) s
def f116 (n : Nat) (x1 : Int32) (s : zσ) : Option (Int32 × zσ) :=
    zlet ((x1 * (20 : Int32))) fun v1 =>
    if zin? v1 80 = true then
    zlet ((s.1 1018 (nx v1))) fun v2 =>
    if zin? x1 4 = true then
    if (0 : Int32) < (s.1 1019 (nx x1)) then
    if zin? x1 4 = true then
    if zin? x1 4 = true then
    zlet (sI s 1019 (nx x1) ((s.1 1019 (nx x1)) - (1 : Int32))) fun u3 =>
    if zin? x1 4 = true then
    if zcpo (v1 + (1 : Int32)) v1 (u3.1 1019 (nx x1)) 80 80 = true then
    zlet (sC u3 1018 (nx (v1 + (1 : Int32))) 1018 (nx v1) (nx (u3.1 1019 (nx x1)))) fun u4 =>
    some (v2, u4)
    else none
    else none
    else none
    else none
    else some (v2, s)
    else none
    else none
def f114 (n : Nat) (x1 : Nat) (x2 : Int32) (s : zσ) : Option zσ :=
    zrd 6 (s.2.2 1007 9) fun a1 =>
    if zin? x2 200 = true then
    zlet ((s.1 (a1 + 2) (nx x2))) fun v2 =>
    zrd 6 (s.2.2 1007 9) fun a3 =>
    if zin? x2 200 = true then
    if (s.1 (a3 + 1) (nx x2)) = (159 : Int32) then
    yb0 (f115 n v2 s) fun u4 =>
    some u4
    else if (s.1 (a3 + 1) (nx x2)) = (161 : Int32) then
    if zin? v2 4 = true then
    zlet (sI s 1016 (nx v2) (s.1 x1 0)) fun u5 =>
    some u5
    else none
    else if (s.1 (a3 + 1) (nx x2)) = (165 : Int32) then
    zrd 6 (s.2.2 1007 9) fun a6 =>
    if zin? x2 200 = true then
    yb1 (f116 n v2 s) fun v8 u7 =>
    if zin? (s.1 (a6 + 3) (nx x2)) 8 = true then
    zlet (sI u7 1010 (nx (s.1 (a6 + 3) (nx x2))) v8) fun u9 =>
    some u9
    else none
    else none
    else if zin? ((v2 * (8 : Int32)) + (s.1 x1 0)) 32 = true then
    if zin? ((v2 * (8 : Int32)) + (s.1 x1 0)) 32 = true then
    zlet (sI s 1017 (nx ((v2 * (8 : Int32)) + (s.1 x1 0))) ((s.1 1017 (nx ((v2 * (8 : Int32)) + (s.1 x1 0)))) + (1 : Int32))) fun u10 =>
    some u10
    else none
    else none
    else none
    else none
def f106 (n : Nat) (x1 : Nat) (x2 : Int32) (s : zσ) : Option (Int32 × zσ) :=
    zlet (sI s 1007 15 ((s.1 1007 15) + (1 : Int32))) fun u1 =>
    zlet (sI u1 x1 12 ((s.1 1007 15) + (1 : Int32))) fun u2 =>
    yb1 (f107 n x1 x2 u2) fun v4 u3 =>
    if v4 = (0 : Int32) then
    zlet (sI u3 x1 3 (3 : Int32)) fun u6 =>
    some ((-1 : Int32), u6)
    else yb0 (f114 n x1 x2 u3) fun u5 =>
    some ((0 : Int32), u5)
def f117_35 (n : Nat) : Nat → Int32 → Int32 → zσ → Option (Int32 × zσ)
  | 0, _, _, _ => none
  | j + 1, x1, x2, s =>
    if x2 < (4 : Int32) then
    if zin? x2 4 = true then
    yb1 (f109 n x1 x2 s) fun v2 u1 =>
    if zin? x2 4 = true then
    zlet (sI u1 1015 (nx x2) ((s.1 1015 (nx x2)) + v2)) fun u3 =>
    f117_35 n j x1 (x2 + (1 : Int32)) u3
    else none
    else none
    else some ((0 : Int32), s)
def f117_2 (n : Nat) : Nat → Int32 → Int32 → zσ → Option (Int32 × zσ)
  | 0, _, _, _ => none
  | j + 1, x1, x2, s =>
    if x2 < (4 : Int32) then
    if zin? x2 4 = true then
    yb1 (f109 n x1 x2 s) fun v2 u1 =>
    if (9 : Int32) < ((s.1 1015 (nx x2)) + v2) then
    some ((8 : Int32), u1)
    else f117_2 n j x1 (x2 + (1 : Int32)) u1
    else none
    else f117_35 n n x1 (0 : Int32) s
def f117 (n : Nat) (x1 : Int32) (s : zσ) : Option (Int32 × zσ) :=
    f117_2 n n x1 (0 : Int32) s
def f118 (n : Nat) (x1 : Int32) (x2 : Int32) (s : zσ) : Option (Int32 × zσ) :=
    if zin? x1 4 = true then
    if (s.1 1016 (nx x1)) = x2 then
    if zin? x1 4 = true then
    zlet (sI s 1016 (nx x1) (-1 : Int32)) fun u1 =>
    some ((0 : Int32), u1)
    else none
    else some ((8 : Int32), s)
    else none
def f119 (n : Nat) (x1 : Int32) (x2 : Int32) (s : zσ) : Option (Int32 × zσ) :=
    if zin? ((x1 * (8 : Int32)) + x2) 32 = true then
    if (s.1 1017 (nx ((x1 * (8 : Int32)) + x2))) = (0 : Int32) then
    some ((8 : Int32), s)
    else if zin? ((x1 * (8 : Int32)) + x2) 32 = true then
    if zin? ((x1 * (8 : Int32)) + x2) 32 = true then
    zlet (sI s 1017 (nx ((x1 * (8 : Int32)) + x2)) ((s.1 1017 (nx ((x1 * (8 : Int32)) + x2))) - (1 : Int32))) fun u1 =>
    some ((0 : Int32), u1)
    else none
    else none
    else none
def f120 (n : Nat) (x1 : Int32) (x2 : Int32) (s : zσ) : Option (Int32 × zσ) :=
    if zin? x1 4 = true then
    if (s.1 1021 (nx x1)) < (40 : Int32) then
    if zin? x1 4 = true then
    if zin? ((x1 * (40 : Int32)) + (s.1 1021 (nx x1))) 160 = true then
    zlet (sI s 1020 (nx ((x1 * (40 : Int32)) + (s.1 1021 (nx x1)))) x2) fun u1 =>
    if zin? x1 4 = true then
    if zin? x1 4 = true then
    zlet (sI u1 1021 (nx x1) ((u1.1 1021 (nx x1)) + (1 : Int32))) fun u2 =>
    some ((0 : Int32), u2)
    else none
    else none
    else none
    else none
    else some ((8 : Int32), s)
    else none
def f121_138 (n : Nat) (r39 : Int32 → Int32 → zσ → Option (Int32 × zσ)) (r47 : Int32 → Int32 → Int32 → zσ → Option (Int32 × zσ)) (x1 : Int32) (x2 : Int32) (x3 : Int32) (s : zσ) : Option (Int32 × zσ) :=
    r47 x1 x2 (x3 + (1 : Int32)) s
def f121_96 (n : Nat) (r39 : Int32 → Int32 → zσ → Option (Int32 × zσ)) (r47 : Int32 → Int32 → Int32 → zσ → Option (Int32 × zσ)) (x1 : Int32) (x2 : Int32) (x3 : Int32) (y0 : Int32) (s : zσ) : Option (Int32 × zσ) :=
    if y0 = x2 then
    if zin? x3 16 = true then
    if (s.1 1023 (nx x3)) = (-2000000000 : Int32) then
    if zin? x3 16 = true then
    if (s.1 1026 (nx x3)) = x1 then
    yb1 (f87 n x3 s) fun v2 u1 =>
    f121_138 n r39 r47 x1 x2 x3 u1
    else f121_138 n r39 r47 x1 x2 x3 s
    else none
    else f121_138 n r39 r47 x1 x2 x3 s
    else none
    else f121_138 n r39 r47 x1 x2 x3 s
def f121_47 (n : Nat) (r39 : Int32 → Int32 → zσ → Option (Int32 × zσ)) : Nat → Int32 → Int32 → Int32 → zσ → Option (Int32 × zσ)
  | 0, _, _, _, _ => none
  | j + 1, x1, x2, x3, s =>
    if x3 < ((2 : Int32) * (s.1 1007 12)) then
    if zin? (x3 / (2 : Int32)) 8 = true then
    zrd 8 (s.2.2 1008 (nx (x3 / (2 : Int32)))) fun a1 =>
    if (s.1 a1 3) = (0 : Int32) then
    zrd 9 (s.2.2 1007 8) fun a2 =>
    if zin? (s.1 a1 0) 8 = true then
    f121_96 n r39 (f121_47 n r39 j) x1 x2 x3 (s.1 (a2 + 14) (nx (s.1 a1 0))) s
    else none
    else f121_96 n r39 (f121_47 n r39 j) x1 x2 x3 (s.1 a1 4) s
    else none
    else r39 x1 (x2 + (1 : Int32)) s
def f121_39 (n : Nat) : Nat → Int32 → Int32 → zσ → Option (Int32 × zσ)
  | 0, _, _, _ => none
  | j + 1, x1, x2, s =>
    if (9 : Int32) < x2 then
    some ((1 : Int32), s)
    else f121_47 n (f121_39 n j) n x1 x2 (0 : Int32) s
def f121 (n : Nat) (x1 : Int32) (s : zσ) : Option (Int32 × zσ) :=
    if zin? x1 4 = true then
    if (s.1 1027 (nx x1)) = (0 : Int32) then
    if zin? x1 4 = true then
    zlet (sI s 1028 (nx x1) (vp_nar .boolean (1 : Int32))) fun u2 =>
    some ((0 : Int32), u2)
    else none
    else if zin? x1 4 = true then
    if zin? x1 4 = true then
    zlet (sI s 1029 (nx x1) ((s.1 1029 (nx x1)) + (1 : Int32))) fun u1 =>
    f121_39 n n x1 (1 : Int32) u1
    else none
    else none
    else none
def f122 (n : Nat) (x1 : Int32) (s : zσ) : Option (Int32 × zσ) :=
    if zin? x1 4 = true then
    zlet (sI s 1027 (nx x1) (vp_nar .boolean (1 : Int32))) fun u1 =>
    if zin? x1 4 = true then
    if (u1.1 1028 (nx x1)) = (0 : Int32) then
    some ((0 : Int32), u1)
    else if zin? x1 4 = true then
    zlet (sI u1 1028 (nx x1) (vp_nar .boolean (0 : Int32))) fun u2 =>
    yb1 (f121 n x1 u2) fun v4 u3 =>
    some ((0 : Int32), u3)
    else none
    else none
    else none
def f125_26 (n : Nat) (r4 : Int32 → Int32 → zσ → Option (Int32 × zσ)) (x1 : Int32) (x2 : Int32) (s : zσ) : Option (Int32 × zσ) :=
    r4 x1 (x2 + (1 : Int32)) s
def f125_4 (n : Nat) : Nat → Int32 → Int32 → zσ → Option (Int32 × zσ)
  | 0, _, _, _ => none
  | j + 1, x1, x2, s =>
    if x2 < (Int32.ofNat 16) then
    if zin? x2 16 = true then
    if (s.1 1023 (nx x2)) = (-1 : Int32) then
    f125_26 n (f125_4 n j) x1 x2 s
    else f125_26 n (f125_4 n j) (x1 + (1 : Int32)) x2 s
    else none
    else some (x1, s)
def f125 (n : Nat) (s : zσ) : Option (Int32 × zσ) :=
    f125_4 n n (0 : Int32) (0 : Int32) s
def f124_252 (n : Nat) (y0 : Int32) (y1 : Int32) (s : zσ) : Option (Int32 × zσ) :=
    if zin? y1 16 = true then
    zlet (sI s 1026 (nx y1) y0) fun u1 =>
    some ((0 : Int32), u1)
    else none
def f124_223 (n : Nat) (x1 : Int32) (x2 : Int32) (x3 : Int32) (x8 : Int32) (y0 : Int32) (y1 : Int32) (s : zσ) : Option (Int32 × zσ) :=
    if zin? y1 16 = true then
    zlet (sI s 1024 (nx y1) y0) fun u1 =>
    if zin? x1 16 = true then
    zlet (sI u1 1025 (nx x1) x8) fun u2 =>
    if x3 = (0 : Int32) then
    f124_252 n x2 x1 u2
    else f124_252 n (-1 : Int32) x1 u2
    else none
    else none
def f124_203 (n : Nat) (x1 : Int32) (x2 : Int32) (x3 : Int32) (x4 : Int32) (x5 : Int32) (x8 : Int32) (y0 : Int32) (y1 : Int32) (s : zσ) : Option (Int32 × zσ) :=
    if zin? y1 16 = true then
    zlet (sI s 1023 (nx y1) y0) fun u1 =>
    if x4 = (0 : Int32) then
    f124_223 n x1 x2 x3 x8 (0 : Int32) x1 u1
    else f124_223 n x1 x2 x3 x8 x5 x1 u1
    else none
def f124_182 (n : Nat) (x1 : Int32) (x2 : Int32) (x3 : Int32) (x4 : Int32) (x5 : Int32) (x6 : Int64) (x8 : Int32) (s : zσ) : Option (Int32 × zσ) :=
    if x3 = (0 : Int32) then
    f124_203 n x1 x2 x3 x4 x5 x8 (-2000000000 : Int32) x1 s
    else f124_203 n x1 x2 x3 x4 x5 x8 (x6.toInt32) x1 s
def f124_154 (n : Nat) (x1 : Int32) (x2 : Int32) (x3 : Int32) (x4 : Int32) (x5 : Int32) (x6 : Int64) (x8 : Int32) (s : zσ) : Option (Int32 × zσ) :=
    if zin? x1 16 = true then
    if (s.1 1023 (nx x1)) = (-1 : Int32) then
    yb1 (f125 n s) fun v2 u1 =>
    if v2 < (12 : Int32) then
    f124_182 n x1 x2 x3 x4 x5 x6 x8 u1
    else some ((7 : Int32), u1)
    else f124_182 n x1 x2 x3 x4 x5 x6 x8 s
    else none
def f124_122 (n : Nat) (x1 : Int32) (x2 : Int32) (x3 : Int32) (x4 : Int32) (x5 : Int32) (x6 : Int64) (x8 : Int32) (y0 : Int32) (s : zσ) : Option (Int32 × zσ) :=
    if x3 = (0 : Int32) then
    f124_154 n x1 x2 x3 x4 x5 x6 x8 s
    else if y0 = (0 : Int32) then
    if (1000000000 : Int64) < x6 then
    some ((9 : Int32), s)
    else if (x8.toInt64) < x6 then
    some ((9 : Int32), s)
    else f124_154 n x1 x2 x3 x4 x5 x6 x8 s
    else some ((9 : Int32), s)
def f124_85 (n : Nat) (x1 : Int32) (x2 : Int32) (x3 : Int32) (x4 : Int32) (x5 : Int32) (x6 : Int64) (y0 : Int32) (s : zσ) : Option (Int32 × zσ) :=
    if x2 = (145 : Int32) then
    if x5 < (s.1 1007 14) then
    f124_122 n x1 x2 x3 x4 x5 x6 y0 (1 : Int32) s
    else f124_122 n x1 x2 x3 x4 x5 x6 y0 (0 : Int32) s
    else if x5 < (1 : Int32) then
    f124_122 n x1 x2 x3 x4 x5 x6 y0 (1 : Int32) s
    else f124_122 n x1 x2 x3 x4 x5 x6 y0 (0 : Int32) s
def f124_64 (n : Nat) (x1 : Int32) (x2 : Int32) (x3 : Int32) (x4 : Int32) (x5 : Int32) (y0 : Int64) (s : zσ) : Option (Int32 × zσ) :=
    if x2 = (141 : Int32) then
    if zin? (1 : Int32) 64 = true then
    f124_85 n x1 x2 x3 x4 x5 y0 (s.1 1033 (nx (1 : Int32))) s
    else none
    else f124_85 n x1 x2 x3 x4 x5 y0 (2147483647 : Int32) s
def f124_32 (n : Nat) (x1 : Int32) (x2 : Int32) (x3 : Int32) (y0 : Int32) (s : zσ) : Option (Int32 × zσ) :=
    if zin? (0 : Int32) 64 = true then
    zlet ((s.1 1033 (nx (0 : Int32)))) fun v1 =>
    if x2 = (145 : Int32) then
    f124_64 n x1 x2 x3 y0 v1 (v1.toInt64) s
    else f124_64 n x1 x2 x3 y0 v1 (((s.1 1007 14).toInt64) + (v1.toInt64)) s
    else none
def f124_27 (n : Nat) (x1 : Int32) (x2 : Int32) (x3 : Int32) (s : zσ) : Option (Int32 × zσ) :=
    f124_32 n x1 x2 x3 (1 : Int32) s
def f124_12 (n : Nat) (x1 : Int32) (x2 : Int32) (y0 : Int32) (s : zσ) : Option (Int32 × zσ) :=
    if x2 = (147 : Int32) then
    f124_27 n x1 x2 y0 s
    else if x2 = (141 : Int32) then
    f124_27 n x1 x2 y0 s
    else f124_32 n x1 x2 y0 (0 : Int32) s
def f124 (n : Nat) (x1 : Int32) (x2 : Int32) (s : zσ) : Option (Int32 × zσ) :=
    if x2 < (141 : Int32) then
    f124_12 n x1 x2 (0 : Int32) s
    else f124_12 n x1 x2 (1 : Int32) s
def f126 (n : Nat) (x1 : Nat) (s : zσ) : Option zσ :=
    zlet (sI s x1 8 ((s.1 x1 8) + (1 : Int32))) fun u1 =>
    zlet (sI u1 1030 9 ((u1.1 1030 9) + (u1.1 x1 10))) fun u2 =>
    zlet (sI u2 x1 10 (0 : Int32)) fun u3 =>
    zlet (sI u3 x1 3 (0 : Int32)) fun u4 =>
    if zin? (((2 : Int32) * (u4.1 x1 0)) + (1 : Int32)) 16 = true then
    zlet (sI u4 1023 (nx (((2 : Int32) * (u4.1 x1 0)) + (1 : Int32))) (-1 : Int32)) fun u5 =>
    if (0 : Int32) < (u5.1 x1 5) then
    zlet (sI u5 x1 5 ((u5.1 x1 5) - (1 : Int32))) fun u6 =>
    yb0 (f80 n x1 u6) fun u7 =>
    some u7
    else some u5
    else none
def f123_171 (n : Nat) (y0 : Int32) (y1 : Nat) (s : zσ) : Option (Int32 × zσ) :=
    zlet (sI s y1 3 y0) fun u1 =>
    some ((0 : Int32), u1)
def f123_155 (n : Nat) (x5 : Nat) (s : zσ) : Option (Int32 × zσ) :=
    if (s.1 x5 3) = (1 : Int32) then
    f123_171 n (2 : Int32) x5 s
    else f123_171 n (4 : Int32) x5 s
def f123_36 (n : Nat) (x1 : Nat) (x2 : Int32) (x3 : Int32) (x4 : Int32) (y0 : Nat) (s : zσ) : Option (Int32 × zσ) :=
    zrd 6 (s.2.2 1007 9) fun a1 =>
    if zin? x2 200 = true then
    if (s.1 (a1 + 1) (nx x2)) = (167 : Int32) then
    if x4 = (-1 : Int32) then
    yb1 (f87 n ((2 : Int32) * x3) s) fun v3 u2 =>
    some ((0 : Int32), u2)
    else yb1 (f124 n ((2 : Int32) * x3) x4 s) fun v5 u4 =>
    some (v5, u4)
    else if (s.1 (a1 + 1) (nx x2)) = (168 : Int32) then
    if x4 = (-1 : Int32) then
    yb1 (f87 n (((2 : Int32) * x3) + (1 : Int32)) s) fun v7 u6 =>
    some (v7, u6)
    else yb1 (f124 n (((2 : Int32) * x3) + (1 : Int32)) x4 s) fun v9 u8 =>
    some (v9, u8)
    else if (s.1 (a1 + 1) (nx x2)) = (169 : Int32) then
    if (s.1 y0 3) = (1 : Int32) then
    f123_155 n y0 s
    else if (s.1 y0 3) = (3 : Int32) then
    f123_155 n y0 s
    else some ((7 : Int32), s)
    else if (s.1 (a1 + 1) (nx x2)) = (170 : Int32) then
    if zin? (0 : Int32) 64 = true then
    if (s.1 1033 (nx (0 : Int32))) < (1 : Int32) then
    some ((5 : Int32), s)
    else if zin? (0 : Int32) 64 = true then
    if (9 : Int32) < (s.1 1033 (nx (0 : Int32))) then
    some ((5 : Int32), s)
    else if (s.1 y0 3) = (0 : Int32) then
    some ((7 : Int32), s)
    else if zin? (0 : Int32) 64 = true then
    zlet (sI s y0 4 (s.1 1033 (nx (0 : Int32)))) fun u10 =>
    some ((0 : Int32), u10)
    else none
    else none
    else none
    else if (s.1 (a1 + 1) (nx x2)) = (171 : Int32) then
    if zin? ((2 : Int32) * x3) 16 = true then
    zlet (sI s 1023 (nx ((2 : Int32) * x3)) (-1 : Int32)) fun u11 =>
    if zin? (((2 : Int32) * x3) + (1 : Int32)) 16 = true then
    zlet (sI u11 1023 (nx (((2 : Int32) * x3) + (1 : Int32))) (-1 : Int32)) fun u12 =>
    some ((0 : Int32), u12)
    else none
    else none
    else if (s.1 y0 3) = (0 : Int32) then
    some ((7 : Int32), s)
    else yb0 (f126 n y0 s) fun u13 =>
    if y0 = x1 then
    some ((-1 : Int32), u13)
    else some ((0 : Int32), u13)
    else none
def f123 (n : Nat) (x1 : Nat) (x2 : Int32) (s : zσ) : Option (Int32 × zσ) :=
    zrd 6 (s.2.2 1007 9) fun a1 =>
    if zin? x2 200 = true then
    zlet ((s.1 (a1 + 2) (nx x2))) fun v2 =>
    zrd 6 (s.2.2 1007 9) fun a3 =>
    if zin? x2 200 = true then
    zlet ((s.1 (a3 + 3) (nx x2))) fun v4 =>
    if v2 = (-1 : Int32) then
    f123_36 n x1 x2 v2 v4 x1 s
    else if zin? v2 8 = true then
    zrd 8 (s.2.2 1008 (nx v2)) fun a5 =>
    f123_36 n x1 x2 v2 v4 a5 s
    else none
    else none
    else none
def f97_406 (n : Nat) (x1 : Nat) (x2 : Int32) (s : zσ) : Option (Int32 × zσ) :=
    yb1 (f106 n x1 x2 s) fun v2 u1 =>
    some (v2, u1)
def f97_339 (n : Nat) (y0 : Int32) (s : zσ) : Option (Int32 × zσ) :=
    zlet (sI s 1007 17 y0) fun u1 =>
    if (u1.1 1007 17) = (-1 : Int32) then
    some ((0 : Int32), u1)
    else some ((-2 : Int32), u1)
def f97_320 (n : Nat) (x2 : Int32) (x3 : Int32) (x4 : Int32) (s : zσ) : Option (Int32 × zσ) :=
    if x4 = (0 : Int32) then
    zrd 6 (s.2.2 1007 9) fun a1 =>
    if zin? x2 200 = true then
    f97_339 n (s.1 (a1 + 3) (nx x2)) s
    else none
    else f97_339 n x3 s
def f97_313 (n : Nat) (s : zσ) : Option (Int32 × zσ) :=
    some ((5 : Int32), s)
def f97 (n : Nat) (x1 : Nat) (x2 : Int32) (s : zσ) : Option (Int32 × zσ) :=
    zrd 6 (s.2.2 1007 9) fun a1 =>
    if zin? x2 200 = true then
    zlet ((s.1 (a1 + 2) (nx x2))) fun v2 =>
    if zin? (0 : Int32) 64 = true then
    zlet ((s.1 1033 (nx (0 : Int32)))) fun v3 =>
    zrd 6 (s.2.2 1007 9) fun a4 =>
    if zin? x2 200 = true then
    if (s.1 (a4 + 1) (nx x2)) = (1 : Int32) then
    yb0 (f98 n x1 v2 v3 s) fun u5 =>
    some ((0 : Int32), u5)
    else if (s.1 (a4 + 1) (nx x2)) = (91 : Int32) then
    if zin? (1 : Int32) 64 = true then
    yb1 (f99 n v2 v3 (s.1 1033 (nx (1 : Int32))) s) fun v7 u6 =>
    some (v7, u6)
    else none
    else if (s.1 (a4 + 1) (nx x2)) = (149 : Int32) then
    zrd 6 (s.2.2 1007 9) fun a8 =>
    if zin? x2 200 = true then
    yb1 (f105 n x1 (s.1 (a8 + 3) (nx x2)) s) fun v10 u9 =>
    some (v10, u9)
    else none
    else if (s.1 (a4 + 1) (nx x2)) = (150 : Int32) then
    zrd 9 (s.2.2 1007 8) fun a11 =>
    zrd 6 (s.2.2 1007 9) fun a12 =>
    if zin? ((s.1 x1 10) - (1 : Int32)) 9 = true then
    if zin? (s.1 (x1 + 1) (nx ((s.1 x1 10) - (1 : Int32)))) 200 = true then
    if zin? (s.1 (a12 + 3) (nx (s.1 (x1 + 1) (nx ((s.1 x1 10) - (1 : Int32)))))) 6 = true then
    zlet (sI s 1007 17 (s.1 (a11 + 17) (nx (s.1 (a12 + 3) (nx (s.1 (x1 + 1) (nx ((s.1 x1 10) - (1 : Int32))))))))) fun u13 =>
    some ((-3 : Int32), u13)
    else none
    else none
    else none
    else if (s.1 (a4 + 1) (nx x2)) = (151 : Int32) then
    f97_320 n x2 v2 v3 s
    else if (s.1 (a4 + 1) (nx x2)) = (152 : Int32) then
    f97_320 n x2 v2 v3 s
    else if (s.1 (a4 + 1) (nx x2)) = (154 : Int32) then
    yb1 (f100 n v2 v3 s) fun v15 u14 =>
    some (v15, u14)
    else if (s.1 (a4 + 1) (nx x2)) = (155 : Int32) then
    zrd 6 (s.2.2 1007 9) fun a16 =>
    if zin? x2 200 = true then
    if zin? (s.1 (a16 + 3) (nx x2)) 4 = true then
    if zin? v2 4 = true then
    zlet (sI s 1011 (nx v2) (s.1 1011 (nx (s.1 (a16 + 3) (nx x2))))) fun u17 =>
    some ((0 : Int32), u17)
    else none
    else none
    else none
    else if (s.1 (a4 + 1) (nx x2)) = (156 : Int32) then
    if zin? v2 4 = true then
    zlet (sI s 1011 (nx v2) (-1 : Int32)) fun u18 =>
    some ((0 : Int32), u18)
    else none
    else if (s.1 (a4 + 1) (nx x2)) = (157 : Int32) then
    yb1 (f104 n v3 s) fun v20 u19 =>
    some (v20, u19)
    else if (s.1 (a4 + 1) (nx x2)) = (158 : Int32) then
    if v3 < (1 : Int32) then
    f97_313 n s
    else if (19 : Int32) < v3 then
    f97_313 n s
    else some (v3, s)
    else if (s.1 (a4 + 1) (nx x2)) = (159 : Int32) then
    f97_406 n x1 x2 s
    else if (s.1 (a4 + 1) (nx x2)) = (160 : Int32) then
    yb1 (f117 n v2 s) fun v22 u21 =>
    some (v22, u21)
    else if (s.1 (a4 + 1) (nx x2)) = (161 : Int32) then
    f97_406 n x1 x2 s
    else if (s.1 (a4 + 1) (nx x2)) = (162 : Int32) then
    yb1 (f118 n v2 (s.1 x1 0) s) fun v24 u23 =>
    some (v24, u23)
    else if (s.1 (a4 + 1) (nx x2)) = (163 : Int32) then
    f97_406 n x1 x2 s
    else if (s.1 (a4 + 1) (nx x2)) = (164 : Int32) then
    yb1 (f119 n v2 (s.1 x1 0) s) fun v26 u25 =>
    some (v26, u25)
    else if (s.1 (a4 + 1) (nx x2)) = (165 : Int32) then
    f97_406 n x1 x2 s
    else if (s.1 (a4 + 1) (nx x2)) = (166 : Int32) then
    yb1 (f120 n v2 v3 s) fun v28 u27 =>
    some (v28, u27)
    else if (s.1 (a4 + 1) (nx x2)) = (172 : Int32) then
    yb1 (f121 n v2 s) fun v30 u29 =>
    some ((0 : Int32), u29)
    else if (s.1 (a4 + 1) (nx x2)) = (173 : Int32) then
    yb1 (f122 n v2 s) fun v32 u31 =>
    some (v32, u31)
    else if (s.1 (a4 + 1) (nx x2)) = (174 : Int32) then
    if zin? v2 4 = true then
    zlet (sI s 1027 (nx v2) (vp_nar .boolean (0 : Int32))) fun u33 =>
    some ((0 : Int32), u33)
    else none
    else yb1 (f123 n x1 x2 s) fun v35 u34 =>
    some (v35, u34)
    else none
    else none
    else none
def f128_49 (n : Nat) (s : zσ) : Option zσ :=
    zlet (sI s 1030 3 ((s.1 1030 3) + (1 : Int32))) fun u1 =>
    zlet (sI u1 1030 4 ((u1.1 1030 4) + (1 : Int32))) fun u2 =>
    some u2
def f128 (n : Nat) (x1 : Int32) (x2 : Int32) (x3 : Int32) (s : zσ) : Option zσ :=
    if (s.1 1030 3) < (100 : Int32) then
    if zin? ((3 : Int32) * (s.1 1030 3)) 300 = true then
    zlet (sI s 1032 (nx ((3 : Int32) * (s.1 1030 3))) x1) fun u1 =>
    if zin? (((3 : Int32) * (u1.1 1030 3)) + (1 : Int32)) 300 = true then
    zlet (sI u1 1032 (nx (((3 : Int32) * (u1.1 1030 3)) + (1 : Int32))) x2) fun u2 =>
    if zin? (((3 : Int32) * (u2.1 1030 3)) + (2 : Int32)) 300 = true then
    zlet (sI u2 1032 (nx (((3 : Int32) * (u2.1 1030 3)) + (2 : Int32))) x3) fun u3 =>
    f128_49 n u3
    else none
    else none
    else none
    else f128_49 n s
def f130_189 (n : Nat) (r9 : Nat → Int32 → Int32 → Int32 → zσ → Option zσ) (x1 : Nat) (x4 : Int32) (x5 : Int32) (x6 : Int32) (s : zσ) : Option zσ :=
    r9 x1 x4 x5 (x6 + (1 : Int32)) s
def f130_143 (n : Nat) (r9 : Nat → Int32 → Int32 → Int32 → zσ → Option zσ) (x1 : Nat) (x5 : Int32) (x6 : Int32) (x7 : Int32) (s : zσ) : Option zσ :=
    zrd 6 (s.2.2 1007 9) fun a1 =>
    if zin? x7 200 = true then
    if (s.1 (a1 + 6) (nx x7)) = (-1 : Int32) then
    zrd 6 (s.2.2 1007 9) fun a2 =>
    if zin? x7 200 = true then
    zlet ((s.1 (a2 + 7) (nx x7))) fun v3 =>
    f130_189 n r9 x1 v3 x5 x6 s
    else none
    else zrd 6 (s.2.2 1007 9) fun a4 =>
    if zin? x7 200 = true then
    if zin? (s.1 x1 10) 9 = true then
    zlet (sI s (x1 + 1) (nx (s.1 x1 10)) (s.1 (a4 + 6) (nx x7))) fun u5 =>
    some u5
    else none
    else none
    else none
def f130_9 (n : Nat) : Nat → Nat → Int32 → Int32 → Int32 → zσ → Option zσ
  | 0, _, _, _, _, _ => none
  | j + 1, x1, x4, x5, x6, s =>
    if x6 < (1000 : Int32) then
    zrd 0 (s.2.2 1007 10) fun a1 =>
    if zin? x4 700 = true then
    zlet ((s.1 (a1 + 2) (nx x4))) fun v2 =>
    zrd 0 (s.2.2 1007 10) fun a3 =>
    if zin? x4 700 = true then
    zlet ((s.1 (a3 + 1) (nx x4))) fun v4 =>
    if v4 = (0 : Int32) then
    yb0 (f126 n x1 s) fun u11 =>
    some u11
    else if v4 = (3 : Int32) then
    if zin? (s.1 x1 10) 9 = true then
    zlet (sI s (x1 + 1) (nx (s.1 x1 10)) v2) fun u10 =>
    some u10
    else none
    else if v4 = (4 : Int32) then
    f130_189 n (f130_9 n j) x1 v2 x5 x6 s
    else if v4 = (1 : Int32) then
    zlet (sI s x1 10 ((s.1 x1 10) - (1 : Int32))) fun u5 =>
    zlet (sI u5 1030 9 ((u5.1 1030 9) + (1 : Int32))) fun u6 =>
    if zin? (u6.1 x1 10) 9 = true then
    zlet ((u6.1 (x1 + 1) (nx (u6.1 x1 10)))) fun v7 =>
    zrd 6 (u6.2.2 1007 9) fun a8 =>
    if zin? v7 200 = true then
    yb0 (f98 n x1 (u6.1 (a8 + 2) (nx v7)) x5 u6) fun u9 =>
    f130_143 n (f130_9 n j) x1 (0 : Int32) x6 v7 u9
    else none
    else none
    else f130_143 n (f130_9 n j) x1 x5 x6 v2 s
    else none
    else none
    else some s
def f130 (n : Nat) (x1 : Nat) (x2 : Int32) (x3 : Int32) (s : zσ) : Option zσ :=
    f130_9 n n x1 x2 x3 (0 : Int32) s
def f129 (n : Nat) (x1 : Nat) (x2 : Int32) (s : zσ) : Option zσ :=
    zrd 0 (s.2.2 1007 10) fun a1 =>
    if zin? x2 700 = true then
    if (s.1 (a1 + 3) (nx x2)) = (-1 : Int32) then
    yb0 (f130 n x1 x2 (0 : Int32) s) fun u2 =>
    some u2
    else zrd 0 (s.2.2 1007 10) fun a3 =>
    if zin? x2 700 = true then
    if zin? (s.1 x1 10) 9 = true then
    zlet (sI s (x1 + 1) (nx (s.1 x1 10)) (s.1 (a3 + 3) (nx x2))) fun u4 =>
    some u4
    else none
    else none
    else none
def f127_246 (n : Nat) (r38 : Nat → Int32 → Int32 → Int32 → Int32 → zσ → Option zσ) (x1 : Nat) (x2 : Int32) (x4 : Int32) (x5 : Int32) (x6 : Int32) (s : zσ) : Option zσ :=
    r38 x1 x2 x4 x5 (x6 + (1 : Int32)) s
def f127_170 (n : Nat) (r38 : Nat → Int32 → Int32 → Int32 → Int32 → zσ → Option zσ) (x1 : Nat) (x2 : Int32) (x4 : Int32) (x5 : Int32) (x6 : Int32) (s : zσ) : Option zσ :=
    zrd 0 (s.2.2 1007 10) fun a1 =>
    if zin? x5 700 = true then
    if (s.1 (a1 + 1) (nx x5)) = (0 : Int32) then
    yb0 (f126 n x1 s) fun u8 =>
    some u8
    else zrd 0 (s.2.2 1007 10) fun a2 =>
    if zin? x5 700 = true then
    if (s.1 (a2 + 1) (nx x5)) = (1 : Int32) then
    zrd 6 (s.2.2 1007 9) fun a6 =>
    if zin? (x4 + (-1 : Int32)) 9 = true then
    if zin? (s.1 (x1 + 1) (nx (x4 + (-1 : Int32)))) 200 = true then
    zlet ((s.1 (a6 + 7) (nx (s.1 (x1 + 1) (nx (x4 + (-1 : Int32))))))) fun v7 =>
    f127_246 n r38 x1 x2 (x4 + (-1 : Int32)) v7 x6 s
    else none
    else none
    else zrd 6 (s.2.2 1007 9) fun a3 =>
    zrd 0 (s.2.2 1007 10) fun a4 =>
    if zin? x5 700 = true then
    if zin? (s.1 (a4 + 2) (nx x5)) 200 = true then
    zlet ((s.1 (a3 + 7) (nx (s.1 (a4 + 2) (nx x5))))) fun v5 =>
    f127_246 n r38 x1 x2 x4 v5 x6 s
    else none
    else none
    else none
    else none
def f127_131 (n : Nat) (r38 : Nat → Int32 → Int32 → Int32 → Int32 → zσ → Option zσ) : Nat → Nat → Int32 → Int32 → Int32 → Int32 → Int32 → zσ → Option zσ
  | 0, _, _, _, _, _, _, _ => none
  | j + 1, x1, x2, x4, x5, x6, x8, s =>
    if x8 < (12 : Int32) then
    zrd 0 (s.2.2 1007 10) fun a1 =>
    if zin? x5 700 = true then
    if (s.1 (a1 + 1) (nx x5)) = (4 : Int32) then
    zrd 0 (s.2.2 1007 10) fun a2 =>
    if zin? x5 700 = true then
    zlet ((s.1 (a2 + 2) (nx x5))) fun v3 =>
    f127_131 n r38 j x1 x2 x4 v3 x6 (x8 + (1 : Int32)) s
    else none
    else f127_170 n r38 x1 x2 x4 x5 x6 s
    else none
    else f127_170 n r38 x1 x2 x4 x5 x6 s
def f127_76 (n : Nat) (r38 : Nat → Int32 → Int32 → Int32 → Int32 → zσ → Option zσ) (x1 : Nat) (x2 : Int32) (x4 : Int32) (x5 : Int32) (x6 : Int32) (x7 : Int32) (s : zσ) : Option zσ :=
    if x7 = (-1 : Int32) then
    f127_131 n r38 n x1 x2 x4 x5 x6 (0 : Int32) s
    else zlet (sI s 1030 5 ((s.1 1030 5) + (1 : Int32))) fun u1 =>
    zlet (sI u1 1030 9 ((u1.1 1030 9) + ((u1.1 x1 10) - x4))) fun u2 =>
    zlet (sI u2 x1 10 x4) fun u3 =>
    yb0 (f129 n x1 x7 u3) fun u4 =>
    some u4
def f127_38 (n : Nat) : Nat → Nat → Int32 → Int32 → Int32 → Int32 → zσ → Option zσ
  | 0, _, _, _, _, _, _ => none
  | j + 1, x1, x2, x4, x5, x6, s =>
    if x6 < (1000 : Int32) then
    zrd 0 (s.2.2 1007 10) fun a1 =>
    yb1 (f44 n a1 x5 x2 s) fun v3 u2 =>
    if v3 = (-1 : Int32) then
    zrd 0 (u2.2.2 1007 10) fun a4 =>
    yb1 (f44 n a4 x5 (0 : Int32) u2) fun v6 u5 =>
    f127_76 n (f127_38 n j) x1 x2 x4 x5 x6 v6 u5
    else f127_76 n (f127_38 n j) x1 x2 x4 x5 x6 v3 u2
    else some s
def f127 (n : Nat) (x1 : Nat) (x2 : Int32) (x3 : Int32) (s : zσ) : Option zσ :=
    yb0 (f128 n (s.1 x1 0) x2 x3 s) fun u1 =>
    zlet (sI u1 x1 9 x2) fun u2 =>
    zlet ((u2.1 x1 10)) fun v3 =>
    zrd 6 (u2.2.2 1007 9) fun a4 =>
    if zin? x3 200 = true then
    zlet ((u2.1 (a4 + 7) (nx x3))) fun v5 =>
    f127_38 n n x1 x2 v3 v5 (0 : Int32) u2
    else none
def f131 (n : Nat) (x1 : Nat) (x2 : Int32) (s : zσ) : Option zσ :=
    zrd 6 (s.2.2 1007 9) fun a1 =>
    if zin? x2 200 = true then
    if (s.1 (a1 + 6) (nx x2)) = (-1 : Int32) then
    zrd 6 (s.2.2 1007 9) fun a2 =>
    if zin? x2 200 = true then
    yb0 (f130 n x1 (s.1 (a2 + 7) (nx x2)) (0 : Int32) s) fun u3 =>
    some u3
    else none
    else zrd 6 (s.2.2 1007 9) fun a4 =>
    if zin? x2 200 = true then
    if zin? (s.1 x1 10) 9 = true then
    zlet (sI s (x1 + 1) (nx (s.1 x1 10)) (s.1 (a4 + 6) (nx x2))) fun u5 =>
    some u5
    else none
    else none
    else none
def f89_41 (n : Nat) (x1 : Nat) (x2 : Int32) (x3 : Int32) (s : zσ) : Option zσ :=
    if (0 : Int32) < x3 then
    yb0 (f127 n x1 x3 x2 s) fun u4 =>
    some u4
    else if x3 = (0 : Int32) then
    yb0 (f131 n x1 x2 s) fun u3 =>
    some u3
    else if x3 = (-2 : Int32) then
    yb0 (f129 n x1 (s.1 1007 17) s) fun u2 =>
    some u2
    else if x3 = (-3 : Int32) then
    if zin? (0 : Int32) 64 = true then
    yb0 (f130 n x1 (s.1 1007 17) (s.1 1033 (nx (0 : Int32))) s) fun u1 =>
    some u1
    else none
    else some s
def f89 (n : Nat) (x1 : Nat) (s : zσ) : Option zσ :=
    if zin? (s.1 x1 10) 9 = true then
    zlet ((s.1 (x1 + 1) (nx (s.1 x1 10)))) fun v1 =>
    zlet (sI s 1030 7 ((s.1 1030 7) + (1 : Int32))) fun u2 =>
    yb1 (f90 n x1 v1 u2) fun v4 u3 =>
    if v4 = (0 : Int32) then
    yb1 (f97 n x1 v1 u3) fun v6 u5 =>
    f89_41 n x1 v1 v6 u5
    else f89_41 n x1 v1 v4 u3
    else none
def f132_128 (n : Nat) (r2 : Int32 → zσ → Option zσ) (x1 : Int32) (x2 : Nat) (x3 : Int32) (y0 : Int32) (y1 : Nat) (s : zσ) : Option zσ :=
    zlet (sI s y1 3 y0) fun u1 =>
    yb0 (f131 n x2 x3 u1) fun u2 =>
    r2 (x1 + (1 : Int32)) u2
def f132_72 (n : Nat) (r2 : Int32 → zσ → Option zσ) (r12 : Int32 → Nat → Int32 → zσ → Option zσ) (x1 : Int32) (x2 : Nat) (x3 : Int32) (s : zσ) : Option zσ :=
    r12 x1 x2 (x3 + (1 : Int32)) s
def f132_49 (n : Nat) (r2 : Int32 → zσ → Option zσ) (r12 : Int32 → Nat → Int32 → zσ → Option zσ) (x1 : Int32) (x2 : Nat) (x3 : Int32) (x4 : Nat) (s : zσ) : Option zσ :=
    if zin? (s.1 x4 10) 9 = true then
    yb1 (f107 n x4 (s.1 (x4 + 1) (nx (s.1 x4 10))) s) fun v2 u1 =>
    if v2 = (0 : Int32) then
    f132_72 n r2 r12 x1 x2 x3 u1
    else f132_72 n r2 r12 x1 x4 x3 u1
    else none
def f132_12 (n : Nat) (r2 : Int32 → zσ → Option zσ) : Nat → Int32 → Nat → Int32 → zσ → Option zσ
  | 0, _, _, _, _ => none
  | j + 1, x1, x2, x3, s =>
    if x3 < (s.1 1007 12) then
    if zin? x3 8 = true then
    zrd 8 (s.2.2 1008 (nx x3)) fun a5 =>
    yb1 (f112 n a5 s) fun v7 u6 =>
    if v7 = (0 : Int32) then
    f132_72 n r2 (f132_12 n r2 j) x1 x2 x3 u6
    else if x2 = 0 then
    f132_49 n r2 (f132_12 n r2 j) x1 0 x3 a5 u6
    else if zck 8 x2 = true then
    yb1 (f113 n a5 x2 u6) fun v9 u8 =>
    if v9 = (0 : Int32) then
    f132_72 n r2 (f132_12 n r2 j) x1 x2 x3 u8
    else f132_49 n r2 (f132_12 n r2 j) x1 x2 x3 a5 u8
    else none
    else none
    else if x2 = 0 then
    some s
    else if zck 8 x2 = true then
    if zin? (s.1 x2 10) 9 = true then
    zlet ((s.1 (x2 + 1) (nx (s.1 x2 10)))) fun v1 =>
    yb0 (f114 n x2 v1 s) fun u2 =>
    zlet (sI u2 1007 15 ((u2.1 1007 15) + (1 : Int32))) fun u3 =>
    zlet (sI u3 x2 11 ((u2.1 1007 15) + (1 : Int32))) fun u4 =>
    if (u4.1 x2 3) = (4 : Int32) then
    f132_128 n r2 x1 x2 v1 (2 : Int32) x2 u4
    else f132_128 n r2 x1 x2 v1 (1 : Int32) x2 u4
    else none
    else none
def f132_2 (n : Nat) : Nat → Int32 → zσ → Option zσ
  | 0, _, _ => none
  | j + 1, x1, s =>
    if (8 : Int32) < x1 then
    some s
    else f132_12 n (f132_2 n j) n x1 0 (0 : Int32) s
def f132 (n : Nat) (s : zσ) : Option zσ :=
    f132_2 n n (0 : Int32) s
def f83_112 (n : Nat) (s : zσ) : Option (Int32 × zσ) :=
    zlet (sI s 1030 6 ((s.1 1030 6) + (1 : Int32))) fun u1 =>
    some ((1 : Int32), u1)
def f83_96 (n : Nat) (r62 : Int32 → Int32 → zσ → Option (Int32 × zσ)) (x1 : Int32) (x2 : Int32) (s : zσ) : Option (Int32 × zσ) :=
    r62 x1 (x2 + (1 : Int32)) s
def f83_62 (n : Nat) : Nat → Int32 → Int32 → zσ → Option (Int32 × zσ)
  | 0, _, _, _ => none
  | j + 1, x1, x2, s =>
    if x2 < x1 then
    if zin? x2 8 = true then
    if zin? (s.1 1034 (nx x2)) 8 = true then
    zrd 8 (s.2.2 1008 (nx (s.1 1034 (nx x2)))) fun a2 =>
    if (s.1 a2 3) = (1 : Int32) then
    yb0 (f89 n a2 s) fun u3 =>
    yb0 (f132 n u3) fun u4 =>
    f83_96 n (f83_62 n j) x1 x2 u4
    else f83_96 n (f83_62 n j) x1 x2 s
    else none
    else none
    else zlet (sI s 1007 14 ((s.1 1007 14) + (1 : Int32))) fun u1 =>
    f83_112 n u1
def f83 (n : Nat) (s : zσ) : Option (Int32 × zσ) :=
    yb0 (f84 n s) fun u1 =>
    yb1 (f88 n u1) fun v3 u2 =>
    if v3 = (0 : Int32) then
    yb1 (f85 n u2) fun v5 u4 =>
    if v5 = (-1 : Int32) then
    yb1 (f81 n (0 : Int32) u4) fun v8 u7 =>
    if v8 = (u7.1 1007 12) then
    some ((2 : Int32), u7)
    else some ((0 : Int32), u7)
    else if zin? v5 16 = true then
    zlet (sI u4 1007 14 (u4.1 1023 (nx v5))) fun u6 =>
    f83_112 n u6
    else none
    else f83_62 n n v3 (0 : Int32) u2
def f82_30 (n : Nat) : Nat → Int32 → Int32 → zσ → Option (Int32 × zσ)
  | 0, _, _, _ => none
  | j + 1, x1, x2, s =>
    if x2 < x1 then
    if (s.1 1030 4) < (4000 : Int32) then
    yb1 (f83 n s) fun v2 u1 =>
    if v2 = (1 : Int32) then
    f82_30 n j x1 (x2 + (1 : Int32)) u1
    else some (v2, u1)
    else some ((-4 : Int32), s)
    else some ((1 : Int32), s)
def f82 (n : Nat) (x1 : Int32) (s : zσ) : Option (Int32 × zσ) :=
    if x1 < (1 : Int32) then
    some ((-2 : Int32), s)
    else if (500 : Int32) < x1 then
    some ((-2 : Int32), s)
    else if (s.1 1007 11) = (0 : Int32) then
    some ((-3 : Int32), s)
    else f82_30 n n x1 (0 : Int32) s
def f134 (n : Nat) (x0 : Nat) (x1 : Int32) (x2 : Int32) (s : zσ) : Option (Int32 × zσ) :=
    if x2 < (0 : Int32) then
    some ((0 : Int32), s)
    else if zin? x1 9 = true then
    if x2 < (s.1 (x0 + 11) (nx x1)) then
    some ((1 : Int32), s)
    else some ((0 : Int32), s)
    else none
def f133 (n : Nat) (x1 : Int32) (s : zσ) : Option (Int32 × zσ) :=
    if (s.1 1007 11) = (0 : Int32) then
    some ((-3 : Int32), s)
    else zrd 9 (s.2.2 1000 3) fun a1 =>
    yb1 (f134 n a1 (4 : Int32) x1 s) fun v3 u2 =>
    if v3 = (0 : Int32) then
    some ((-1 : Int32), u2)
    else yb1 (f121 n x1 u2) fun v5 u4 =>
    some (v5, u4)
def f136 (n : Nat) (x1 : Int32) (x2 : Int32) (s : zσ) : Option zσ :=
    if zin? x1 4 = true then
    if (s.1 1019 (nx x1)) < (20 : Int32) then
    if zin? x1 4 = true then
    if zin? ((x1 * (20 : Int32)) + (s.1 1019 (nx x1))) 80 = true then
    zlet (sI s 1018 (nx ((x1 * (20 : Int32)) + (s.1 1019 (nx x1)))) x2) fun u1 =>
    if zin? x1 4 = true then
    if zin? x1 4 = true then
    zlet (sI u1 1019 (nx x1) ((u1.1 1019 (nx x1)) + (1 : Int32))) fun u2 =>
    some u2
    else none
    else none
    else none
    else none
    else some s
    else none
def f135 (n : Nat) (x1 : Int32) (x2 : Int32) (s : zσ) : Option (Int32 × zσ) :=
    if (s.1 1007 11) = (0 : Int32) then
    some ((-3 : Int32), s)
    else zrd 9 (s.2.2 1000 3) fun a1 =>
    yb1 (f134 n a1 (5 : Int32) x1 s) fun v3 u2 =>
    if v3 = (0 : Int32) then
    some ((-1 : Int32), u2)
    else if zin? x1 4 = true then
    if (u2.1 1019 (nx x1)) < (20 : Int32) then
    yb0 (f136 n x1 x2 u2) fun u4 =>
    yb0 (f132 n u4) fun u5 =>
    if zin? x1 4 = true then
    some ((u5.1 1019 (nx x1)), u5)
    else none
    else some ((-4 : Int32), u2)
    else none
def f138 (n : Nat) (x0 : Nat) (x1 : Int32) (s : zσ) : Option (Int32 × zσ) :=
    if x1 = (0 : Int32) then
    some ((s.1 x0 3), s)
    else if x1 = (1 : Int32) then
    if (s.1 x0 3) = (0 : Int32) then
    some ((0 : Int32), s)
    else some ((s.1 x0 4), s)
    else if x1 = (2 : Int32) then
    if (s.1 x0 3) = (0 : Int32) then
    some ((-1 : Int32), s)
    else if zin? (s.1 x0 10) 9 = true then
    some ((s.1 (x0 + 1) (nx (s.1 x0 10))), s)
    else none
    else if x1 = (3 : Int32) then
    some ((s.1 x0 5), s)
    else if x1 = (4 : Int32) then
    some ((s.1 x0 6), s)
    else if x1 = (5 : Int32) then
    some ((s.1 x0 7), s)
    else if x1 = (6 : Int32) then
    some ((s.1 x0 8), s)
    else if x1 = (7 : Int32) then
    some ((s.1 x0 9), s)
    else if x1 = (8 : Int32) then
    some ((s.1 x0 10), s)
    else some ((-2 : Int32), s)
def f137 (n : Nat) (x1 : Int32) (x2 : Int32) (s : zσ) : Option (Int32 × zσ) :=
    if (s.1 1007 11) = (0 : Int32) then
    some ((-3 : Int32), s)
    else zrd 9 (s.2.2 1000 3) fun a1 =>
    yb1 (f134 n a1 (8 : Int32) x1 s) fun v3 u2 =>
    if v3 = (0 : Int32) then
    some ((-1 : Int32), u2)
    else if zin? x1 8 = true then
    zrd 8 (u2.2.2 1008 (nx x1)) fun a4 =>
    yb1 (f138 n a4 x2 u2) fun v6 u5 =>
    some (v6, u5)
    else none
def f139 (n : Nat) (x1 : Int32) (s : zσ) : Option (Int32 × zσ) :=
    if (s.1 1007 11) = (0 : Int32) then
    some ((0 : Int32), s)
    else zrd 9 (s.2.2 1000 3) fun a1 =>
    yb1 (f134 n a1 (0 : Int32) x1 s) fun v3 u2 =>
    if v3 = (0 : Int32) then
    some ((0 : Int32), u2)
    else if zin? x1 8 = true then
    some ((u2.1 1010 (nx x1)), u2)
    else none
def f140 (n : Nat) (x1 : Int32) (x2 : Int32) (s : zσ) : Option (Int32 × zσ) :=
    if (s.1 1007 11) = (0 : Int32) then
    some ((0 : Int32), s)
    else zrd 9 (s.2.2 1000 3) fun a1 =>
    yb1 (f134 n a1 (1 : Int32) x1 s) fun v3 u2 =>
    if v3 = (0 : Int32) then
    some ((0 : Int32), u2)
    else yb1 (f92 n x1 u2) fun v5 u4 =>
    if x2 = (-1 : Int32) then
    some (v5, u4)
    else if x2 < (0 : Int32) then
    some ((0 : Int32), u4)
    else if x2 < v5 then
    yb1 (f95 n x1 x2 u4) fun v7 u6 =>
    some (v7, u6)
    else some ((0 : Int32), u4)
def f141 (n : Nat) (x1 : Int32) (x2 : Int32) (s : zσ) : Option (Int32 × zσ) :=
    if (s.1 1007 11) = (0 : Int32) then
    some ((-3 : Int32), s)
    else zrd 9 (s.2.2 1000 3) fun a1 =>
    yb1 (f134 n a1 (1 : Int32) x1 s) fun v3 u2 =>
    if v3 = (0 : Int32) then
    some ((-1 : Int32), u2)
    else zrd 9 (u2.2.2 1000 3) fun a4 =>
    yb1 (f134 n a4 (1 : Int32) x2 u2) fun v6 u5 =>
    if v6 = (0 : Int32) then
    some ((-1 : Int32), u5)
    else if zin? x1 4 = true then
    if zin? x2 4 = true then
    if (u5.1 1011 (nx x1)) = (u5.1 1011 (nx x2)) then
    some ((1 : Int32), u5)
    else some ((0 : Int32), u5)
    else none
    else none
def f142 (n : Nat) (x1 : Int32) (s : zσ) : Option (Int32 × zσ) :=
    if (s.1 1007 11) = (0 : Int32) then
    some ((-3 : Int32), s)
    else zrd 9 (s.2.2 1000 3) fun a1 =>
    yb1 (f134 n a1 (2 : Int32) x1 s) fun v3 u2 =>
    if v3 = (0 : Int32) then
    some ((-1 : Int32), u2)
    else if zin? x1 4 = true then
    some ((u2.1 1015 (nx x1)), u2)
    else none
def f143 (n : Nat) (x1 : Int32) (x2 : Int32) (s : zσ) : Option (Int32 × zσ) :=
    if (s.1 1007 11) = (0 : Int32) then
    some ((-3 : Int32), s)
    else zrd 9 (s.2.2 1000 3) fun a1 =>
    yb1 (f134 n a1 (3 : Int32) x1 s) fun v3 u2 =>
    if v3 = (0 : Int32) then
    some ((-1 : Int32), u2)
    else if x2 = (0 : Int32) then
    if zin? x1 4 = true then
    some ((u2.1 1016 (nx x1)), u2)
    else none
    else if x2 = (1 : Int32) then
    yb1 (f110 n x1 u2) fun v8 u7 =>
    some (v8, u7)
    else if (1 : Int32) < x2 then
    zrd 9 (u2.2.2 1000 3) fun a4 =>
    yb1 (f134 n a4 (8 : Int32) (x2 - (2 : Int32)) u2) fun v6 u5 =>
    if v6 = (0 : Int32) then
    some ((-2 : Int32), u5)
    else if zin? (((x1 * (8 : Int32)) + x2) - (2 : Int32)) 32 = true then
    some ((u5.1 1017 (nx (((x1 * (8 : Int32)) + x2) - (2 : Int32)))), u5)
    else none
    else some ((-2 : Int32), u2)
def f144 (n : Nat) (x1 : Int32) (x2 : Int32) (s : zσ) : Option (Int32 × zσ) :=
    if (s.1 1007 11) = (0 : Int32) then
    some ((-3 : Int32), s)
    else zrd 9 (s.2.2 1000 3) fun a1 =>
    yb1 (f134 n a1 (4 : Int32) x1 s) fun v3 u2 =>
    if v3 = (0 : Int32) then
    some ((-1 : Int32), u2)
    else if x2 = (0 : Int32) then
    if zin? x1 4 = true then
    if (u2.1 1027 (nx x1)) = (0 : Int32) then
    some ((0 : Int32), u2)
    else some ((1 : Int32), u2)
    else none
    else if x2 = (1 : Int32) then
    if zin? x1 4 = true then
    if (u2.1 1028 (nx x1)) = (0 : Int32) then
    some ((0 : Int32), u2)
    else some ((1 : Int32), u2)
    else none
    else if x2 = (2 : Int32) then
    if zin? x1 4 = true then
    some ((u2.1 1029 (nx x1)), u2)
    else none
    else some ((-2 : Int32), u2)
def f145 (n : Nat) (x1 : Int32) (x2 : Int32) (s : zσ) : Option (Int32 × zσ) :=
    if (s.1 1007 11) = (0 : Int32) then
    some ((0 : Int32), s)
    else zrd 9 (s.2.2 1000 3) fun a1 =>
    yb1 (f134 n a1 (6 : Int32) x1 s) fun v3 u2 =>
    if v3 = (0 : Int32) then
    some ((0 : Int32), u2)
    else if zin? x1 4 = true then
    zlet ((u2.1 1021 (nx x1))) fun v4 =>
    if x2 = (-1 : Int32) then
    some (v4, u2)
    else if x2 < (0 : Int32) then
    some ((0 : Int32), u2)
    else if x2 < v4 then
    if zin? ((x1 * (40 : Int32)) + x2) 160 = true then
    some ((u2.1 1020 (nx ((x1 * (40 : Int32)) + x2))), u2)
    else none
    else some ((0 : Int32), u2)
    else none
def f148_110 (n : Nat) (x3 : Int32) (x4 : Int32) (y0 : Int32) (s : zσ) : Option (Int32 × zσ) :=
    if y0 = (0 : Int32) then
    some ((0 : Int32), s)
    else zrd 6 (s.2.2 1007 9) fun a1 =>
    if zin? x4 200 = true then
    if (s.1 (a1 + 2) (nx x4)) = x3 then
    some ((1 : Int32), s)
    else some ((0 : Int32), s)
    else none
def f148_105 (n : Nat) (x3 : Int32) (x4 : Int32) (s : zσ) : Option (Int32 × zσ) :=
    f148_110 n x3 x4 (1 : Int32) s
def f148 (n : Nat) (x1 : Nat) (x2 : Int32) (x3 : Int32) (s : zσ) : Option (Int32 × zσ) :=
    yb1 (f112 n x1 s) fun v2 u1 =>
    if v2 = (0 : Int32) then
    some ((0 : Int32), u1)
    else if zin? (u1.1 x1 10) 9 = true then
    zlet ((u1.1 (x1 + 1) (nx (u1.1 x1 10)))) fun v3 =>
    zrd 6 (u1.2.2 1007 9) fun a4 =>
    if zin? v3 200 = true then
    zlet ((u1.1 (a4 + 1) (nx v3))) fun v5 =>
    if x2 = (2 : Int32) then
    if v5 = (159 : Int32) then
    zrd 6 (u1.2.2 1007 9) fun a6 =>
    if zin? v3 200 = true then
    yb1 (f109 n (u1.1 (a6 + 2) (nx v3)) x3 u1) fun v8 u7 =>
    if (0 : Int32) < v8 then
    some ((1 : Int32), u7)
    else some ((0 : Int32), u7)
    else none
    else some ((0 : Int32), u1)
    else if x2 = (5 : Int32) then
    if v5 = (165 : Int32) then
    f148_110 n x3 v3 (1 : Int32) u1
    else f148_110 n x3 v3 (0 : Int32) u1
    else if v5 = (161 : Int32) then
    f148_105 n x3 v3 u1
    else if v5 = (163 : Int32) then
    f148_105 n x3 v3 u1
    else f148_110 n x3 v3 (0 : Int32) u1
    else none
    else none
def f147_100 (n : Nat) (r3 : Int32 → Int32 → Int32 → Int32 → zσ → Option (Int32 × zσ)) (x1 : Int32) (x2 : Int32) (x3 : Int32) (x4 : Int32) (s : zσ) : Option (Int32 × zσ) :=
    r3 x1 x2 x3 (x4 + (1 : Int32)) s
def f147_85 (n : Nat) (r3 : Int32 → Int32 → Int32 → Int32 → zσ → Option (Int32 × zσ)) (r37 : Int32 → Int32 → Int32 → Int32 → Int32 → Int32 → zσ → Option (Int32 × zσ)) (x1 : Int32) (x2 : Int32) (x3 : Int32) (x4 : Int32) (x5 : Int32) (x6 : Int32) (s : zσ) : Option (Int32 × zσ) :=
    r37 x1 x2 x3 x4 x5 (x6 + (1 : Int32)) s
def f147_37 (n : Nat) (r3 : Int32 → Int32 → Int32 → Int32 → zσ → Option (Int32 × zσ)) : Nat → Int32 → Int32 → Int32 → Int32 → Int32 → Int32 → zσ → Option (Int32 × zσ)
  | 0, _, _, _, _, _, _, _ => none
  | j + 1, x1, x2, x3, x4, x5, x6, s =>
    if x6 < (s.1 1007 12) then
    if zin? x6 8 = true then
    zrd 8 (s.2.2 1008 (nx x6)) fun a1 =>
    yb1 (f148 n a1 x1 x2 s) fun v3 u2 =>
    if v3 = (0 : Int32) then
    f147_85 n r3 (f147_37 n r3 j) x1 x2 x3 x4 x5 x6 u2
    else if zin? x6 8 = true then
    zrd 8 (u2.2.2 1008 (nx x6)) fun a4 =>
    if zin? x4 8 = true then
    zrd 8 (u2.2.2 1008 (nx x4)) fun a5 =>
    yb1 (f113 n a4 a5 u2) fun v7 u6 =>
    if v7 = (0 : Int32) then
    f147_85 n r3 (f147_37 n r3 j) x1 x2 x3 x4 x5 x6 u6
    else f147_85 n r3 (f147_37 n r3 j) x1 x2 x3 x4 (x5 + (1 : Int32)) x6 u6
    else none
    else none
    else none
    else if x5 = x3 then
    some (x4, s)
    else f147_100 n r3 x1 x2 x3 x4 s
def f147_3 (n : Nat) : Nat → Int32 → Int32 → Int32 → Int32 → zσ → Option (Int32 × zσ)
  | 0, _, _, _, _, _ => none
  | j + 1, x1, x2, x3, x4, s =>
    if x4 < (s.1 1007 12) then
    if zin? x4 8 = true then
    zrd 8 (s.2.2 1008 (nx x4)) fun a1 =>
    yb1 (f148 n a1 x1 x2 s) fun v3 u2 =>
    if v3 = (0 : Int32) then
    f147_100 n (f147_3 n j) x1 x2 x3 x4 u2
    else f147_37 n (f147_3 n j) n x1 x2 x3 x4 (0 : Int32) (0 : Int32) u2
    else none
    else some ((-1 : Int32), s)
def f147 (n : Nat) (x1 : Int32) (x2 : Int32) (x3 : Int32) (s : zσ) : Option (Int32 × zσ) :=
    f147_3 n n x1 x2 x3 (0 : Int32) s
def f146_31 (n : Nat) (x1 : Int32) (x2 : Int32) (x3 : Int32) (s : zσ) : Option (Int32 × zσ) :=
    zrd 9 (s.2.2 1000 3) fun a1 =>
    yb1 (f134 n a1 x1 x2 s) fun v3 u2 =>
    if v3 = (0 : Int32) then
    some ((-1 : Int32), u2)
    else yb1 (f147 n x1 x2 x3 u2) fun v5 u4 =>
    some (v5, u4)
def f146 (n : Nat) (x1 : Int32) (x2 : Int32) (x3 : Int32) (s : zσ) : Option (Int32 × zσ) :=
    if (s.1 1007 11) = (0 : Int32) then
    some ((-3 : Int32), s)
    else if x1 = (2 : Int32) then
    f146_31 n x1 x2 x3 s
    else if x1 = (3 : Int32) then
    f146_31 n x1 x2 x3 s
    else if x1 = (5 : Int32) then
    f146_31 n x1 x2 x3 s
    else some ((-2 : Int32), s)
def f150_15 (n : Nat) (x1 : Int32) (x2 : Int32) (y0 : Int32) (s : zσ) : Option (Int32 × zσ) :=
    if x2 = (0 : Int32) then
    if zin? x1 16 = true then
    some ((s.1 1023 (nx x1)), s)
    else none
    else if x2 = (1 : Int32) then
    if y0 = (0 : Int32) then
    if zin? x1 16 = true then
    some ((s.1 1024 (nx x1)), s)
    else none
    else some ((0 : Int32), s)
    else if x2 = (2 : Int32) then
    if y0 = (0 : Int32) then
    if zin? x1 16 = true then
    some ((s.1 1025 (nx x1)), s)
    else none
    else some ((2147483647 : Int32), s)
    else if y0 = (0 : Int32) then
    if zin? x1 16 = true then
    some ((s.1 1026 (nx x1)), s)
    else none
    else some ((-1 : Int32), s)
def f150 (n : Nat) (x1 : Int32) (x2 : Int32) (s : zσ) : Option (Int32 × zσ) :=
    if zin? x1 16 = true then
    if (s.1 1023 (nx x1)) = (-1 : Int32) then
    f150_15 n x1 x2 (1 : Int32) s
    else f150_15 n x1 x2 (0 : Int32) s
    else none
def f149 (n : Nat) (x1 : Int32) (x2 : Int32) (x3 : Int32) (s : zσ) : Option (Int32 × zσ) :=
    if (s.1 1007 11) = (0 : Int32) then
    some ((-3 : Int32), s)
    else zrd 9 (s.2.2 1000 3) fun a1 =>
    yb1 (f134 n a1 (8 : Int32) x1 s) fun v3 u2 =>
    if v3 = (0 : Int32) then
    some ((-1 : Int32), u2)
    else if x2 < (0 : Int32) then
    some ((-2 : Int32), u2)
    else if (1 : Int32) < x2 then
    some ((-2 : Int32), u2)
    else if x3 < (0 : Int32) then
    some ((-2 : Int32), u2)
    else if (3 : Int32) < x3 then
    some ((-2 : Int32), u2)
    else yb1 (f150 n (((2 : Int32) * x1) + x2) x3 u2) fun v5 u4 =>
    some (v5, u4)
def f153_143 (n : Nat) (r92 : Int32 → Int32 → Int32 → Int32 → zσ → Option (Int32 × zσ)) (x2 : Int32) (x3 : Int32) (x4 : Int32) (x5 : Int32) (s : zσ) : Option (Int32 × zσ) :=
    r92 x2 x3 x4 (x5 + (1 : Int32)) s
def f153_92 (n : Nat) : Nat → Int32 → Int32 → Int32 → Int32 → zσ → Option (Int32 × zσ)
  | 0, _, _, _, _, _ => none
  | j + 1, x2, x3, x4, x5, s =>
    if x5 < (s.1 1007 12) then
    zrd 6 (s.2.2 1007 9) fun a1 =>
    if zin? x2 200 = true then
    if (s.1 (a1 + 1) (nx x2)) = (161 : Int32) then
    if zin? ((x3 * (8 : Int32)) + x5) 32 = true then
    if (0 : Int32) < (s.1 1017 (nx ((x3 * (8 : Int32)) + x5))) then
    zlet ((x4 ||| ((1 : Int32) <<< (x5 &&& 31)))) fun v2 =>
    f153_143 n (f153_92 n j) x2 x3 v2 x5 s
    else f153_143 n (f153_92 n j) x2 x3 x4 x5 s
    else none
    else f153_143 n (f153_92 n j) x2 x3 x4 x5 s
    else none
    else some (x4, s)
def f153_87 (n : Nat) (x2 : Int32) (x3 : Int32) (y0 : Int32) (s : zσ) : Option (Int32 × zσ) :=
    f153_92 n n x2 x3 y0 (0 : Int32) s
def f153_49 (n : Nat) (x2 : Int32) (s : zσ) : Option (Int32 × zσ) :=
    zrd 6 (s.2.2 1007 9) fun a1 =>
    if zin? x2 200 = true then
    zlet ((s.1 (a1 + 2) (nx x2))) fun v2 =>
    if zin? v2 4 = true then
    if (s.1 1016 (nx v2)) = (-1 : Int32) then
    f153_87 n x2 v2 (0 : Int32) s
    else if zin? v2 4 = true then
    f153_87 n x2 v2 ((1 : Int32) <<< ((s.1 1016 (nx v2)) &&& 31)) s
    else none
    else none
    else none
def f153 (n : Nat) (x1 : Nat) (s : zσ) : Option (Int32 × zσ) :=
    if zin? (s.1 x1 10) 9 = true then
    zlet ((s.1 (x1 + 1) (nx (s.1 x1 10)))) fun v1 =>
    yb1 (f112 n x1 s) fun v3 u2 =>
    if v3 = (0 : Int32) then
    some ((0 : Int32), u2)
    else zrd 6 (u2.2.2 1007 9) fun a4 =>
    if zin? v1 200 = true then
    if (u2.1 (a4 + 1) (nx v1)) = (161 : Int32) then
    f153_49 n v1 u2
    else zrd 6 (u2.2.2 1007 9) fun a5 =>
    if zin? v1 200 = true then
    if (u2.1 (a5 + 1) (nx v1)) = (163 : Int32) then
    f153_49 n v1 u2
    else some ((0 : Int32), u2)
    else none
    else none
    else none
def f152_129 (n : Nat) (r97 : Int32 → Int32 → Int32 → zσ → Option (Int32 × zσ)) (x1 : Int32) (x2 : Int32) (x3 : Int32) (s : zσ) : Option (Int32 × zσ) :=
    r97 x1 x2 (x3 + (1 : Int32)) s
def f152_97 (n : Nat) : Nat → Int32 → Int32 → Int32 → zσ → Option (Int32 × zσ)
  | 0, _, _, _, _ => none
  | j + 1, x1, x2, x3, s =>
    if x3 < (s.1 1007 12) then
    if zin? x3 8 = true then
    if (((s.1 1035 (nx x3)) >>> (x3 &&& 31)) &&& (1 : Int32)) = (1 : Int32) then
    if x2 = x1 then
    some (x3, s)
    else f152_129 n (f152_97 n j) x1 (x2 + (1 : Int32)) x3 s
    else f152_129 n (f152_97 n j) x1 x2 x3 s
    else none
    else some ((-1 : Int32), s)
def f152_81 (n : Nat) (r34 : Int32 → Int32 → zσ → Option (Int32 × zσ)) (r44 : Int32 → Int32 → Int32 → zσ → Option (Int32 × zσ)) (x1 : Int32) (x2 : Int32) (x3 : Int32) (s : zσ) : Option (Int32 × zσ) :=
    r44 x1 x2 (x3 + (1 : Int32)) s
def f152_44 (n : Nat) (r34 : Int32 → Int32 → zσ → Option (Int32 × zσ)) : Nat → Int32 → Int32 → Int32 → zσ → Option (Int32 × zσ)
  | 0, _, _, _, _ => none
  | j + 1, x1, x2, x3, s =>
    if x3 < (s.1 1007 12) then
    if zin? x3 8 = true then
    if (((s.1 1035 (nx x3)) >>> (x2 &&& 31)) &&& (1 : Int32)) = (1 : Int32) then
    if zin? x3 8 = true then
    if zin? x2 8 = true then
    if zin? x3 8 = true then
    zlet (sI s 1035 (nx x3) ((s.1 1035 (nx x3)) ||| (s.1 1035 (nx x2)))) fun u1 =>
    f152_81 n r34 (f152_44 n r34 j) x1 x2 x3 u1
    else none
    else none
    else none
    else f152_81 n r34 (f152_44 n r34 j) x1 x2 x3 s
    else none
    else r34 x1 (x2 + (1 : Int32)) s
def f152_34 (n : Nat) : Nat → Int32 → Int32 → zσ → Option (Int32 × zσ)
  | 0, _, _, _ => none
  | j + 1, x1, x2, s =>
    if x2 < (s.1 1007 12) then
    f152_44 n (f152_34 n j) n x1 x2 (0 : Int32) s
    else f152_97 n n x1 (0 : Int32) (0 : Int32) s
def f152_2 (n : Nat) : Nat → Int32 → Int32 → zσ → Option (Int32 × zσ)
  | 0, _, _, _ => none
  | j + 1, x1, x2, s =>
    if x2 < (s.1 1007 12) then
    if zin? x2 8 = true then
    zrd 8 (s.2.2 1008 (nx x2)) fun a1 =>
    yb1 (f153 n a1 s) fun v3 u2 =>
    if zin? x2 8 = true then
    zlet (sI u2 1035 (nx x2) v3) fun u4 =>
    f152_2 n j x1 (x2 + (1 : Int32)) u4
    else none
    else none
    else f152_34 n n x1 (0 : Int32) s
def f152 (n : Nat) (x1 : Int32) (s : zσ) : Option (Int32 × zσ) :=
    f152_2 n n x1 (0 : Int32) s
def f151 (n : Nat) (x1 : Int32) (s : zσ) : Option (Int32 × zσ) :=
    if (s.1 1007 11) = (0 : Int32) then
    some ((-3 : Int32), s)
    else yb1 (f152 n x1 s) fun v2 u1 =>
    some (v2, u1)
def f155 (n : Nat) (x1 : Int32) (s : zσ) : Option (Int32 × zσ) :=
    if x1 < (0 : Int32) then
    some ((0 : Int32), s)
    else if x1 < (s.1 1030 2) then
    if x1 < (200 : Int32) then
    if zin? x1 200 = true then
    some ((s.1 1031 (nx x1)), s)
    else none
    else some ((0 : Int32), s)
    else some ((0 : Int32), s)
def f154 (n : Nat) (x1 : Int32) (s : zσ) : Option (Int32 × zσ) :=
    if (s.1 1007 11) = (0 : Int32) then
    some ((0 : Int32), s)
    else yb1 (f155 n x1 s) fun v2 u1 =>
    some (v2, u1)
def f157_32 (n : Nat) (x1 : Int32) (x2 : Int32) (y0 : Int32) (s : zσ) : Option (Int32 × zσ) :=
    if y0 = (0 : Int32) then
    some ((-1 : Int32), s)
    else if zin? (((3 : Int32) * x1) + x2) 300 = true then
    some ((s.1 1032 (nx (((3 : Int32) * x1) + x2))), s)
    else none
def f157_31 (n : Nat) (x1 : Int32) (x2 : Int32) (s : zσ) : Option (Int32 × zσ) :=
    f157_32 n x1 x2 (0 : Int32) s
def f157 (n : Nat) (x1 : Int32) (x2 : Int32) (s : zσ) : Option (Int32 × zσ) :=
    if x1 < (0 : Int32) then
    f157_31 n x1 x2 s
    else if x1 < (s.1 1030 3) then
    if x1 < (100 : Int32) then
    if x2 < (0 : Int32) then
    f157_31 n x1 x2 s
    else if (2 : Int32) < x2 then
    f157_31 n x1 x2 s
    else f157_32 n x1 x2 (1 : Int32) s
    else f157_31 n x1 x2 s
    else f157_31 n x1 x2 s
def f156 (n : Nat) (x1 : Int32) (x2 : Int32) (s : zσ) : Option (Int32 × zσ) :=
    if (s.1 1007 11) = (0 : Int32) then
    some ((-1 : Int32), s)
    else yb1 (f157 n x1 x2 s) fun v2 u1 =>
    some (v2, u1)
def f159 (n : Nat) (x1 : Int32) (s : zσ) : Option (Int32 × zσ) :=
    if x1 = (0 : Int32) then
    some ((s.1 1007 14), s)
    else if x1 = (1 : Int32) then
    some ((s.1 1030 6), s)
    else if x1 = (2 : Int32) then
    some ((s.1 1030 7), s)
    else if x1 = (3 : Int32) then
    some ((s.1 1030 2), s)
    else if x1 = (4 : Int32) then
    some ((s.1 1030 3), s)
    else if x1 = (5 : Int32) then
    some ((s.1 1030 5), s)
    else if x1 = (6 : Int32) then
    yb1 (f125 n s) fun v2 u1 =>
    some (v2, u1)
    else if x1 = (7 : Int32) then
    yb1 (f81 n (1 : Int32) s) fun v4 u3 =>
    some (v4, u3)
    else if x1 = (8 : Int32) then
    some ((s.1 1030 8), s)
    else if x1 = (9 : Int32) then
    some ((s.1 1030 9), s)
    else some ((-2 : Int32), s)
def f158 (n : Nat) (x1 : Int32) (s : zσ) : Option (Int32 × zσ) :=
    if (s.1 1007 11) = (0 : Int32) then
    some ((-3 : Int32), s)
    else yb1 (f159 n x1 s) fun v2 u1 =>
    some (v2, u1)
def f162_88 (n : Nat) (y0 : Int32) (s : zσ) : Option (Int32 × zσ) :=
    zlet (sI s 1132 1 y0) fun u1 =>
    some ((u1.1 1132 1), u1)
def f162_33 (n : Nat) : Nat → Int64 → Int32 → Int32 → zσ → Option (Int32 × zσ)
  | 0, _, _, _, _ => none
  | j + 1, x1, x3, x4, s =>
    if x4 < (0 : Int32) then
    if x3 = (0 : Int32) then
    f162_88 n (0 : Int32) s
    else f162_88 n (s.1 1132 1) s
    else if zin? (s.1 1132 1) 4000 = true then
    zlet (sI s 1133 (nx (s.1 1132 1)) (((((x1).toUInt64 >>> (((8 : Int32) * x4).toInt64.toUInt64 &&& Int64.toUInt64 63)).toInt64).toInt32) &&& (255 : Int32))) fun u1 =>
    zlet (sI u1 1132 1 ((u1.1 1132 1) + (1 : Int32))) fun u2 =>
    f162_33 n j x1 x3 (x4 + (-1 : Int32)) u2
    else none
def f162 (n : Nat) (x1 : Int64) (x3 : Int32) (s : zσ) : Option (Int32 × zσ) :=
    if x3 < (0 : Int32) then
    some ((-2 : Int32), s)
    else if (8 : Int32) < x3 then
    some ((-2 : Int32), s)
    else if (4000 : Int32) < ((s.1 1132 1) + x3) then
    some ((-4 : Int32), s)
    else zlet ((x3 - (1 : Int32))) fun v1 =>
    f162_33 n n x1 x3 v1 s
def f165 (n : Nat) (x0 : Int32) (s : zσ) : Option (Int32 × zσ) :=
    if x0 < (97 : Int32) then
    some ((0 : Int32), s)
    else if (122 : Int32) < x0 then
    some ((0 : Int32), s)
    else some ((1 : Int32), s)
def f166 (n : Nat) (x0 : Int32) (s : zσ) : Option (Int32 × zσ) :=
    if x0 < (48 : Int32) then
    some ((0 : Int32), s)
    else if (57 : Int32) < x0 then
    some ((0 : Int32), s)
    else some ((1 : Int32), s)
def f164_285 (n : Nat) (x1 : Int32) (s : zσ) : Option zσ :=
    zlet (sI s 1132 5 x1) fun u1 =>
    some u1
def f164_274 (n : Nat) (x1 : Int32) (x2 : Int32) (y0 : Int32) (s : zσ) : Option zσ :=
    zlet (sI s 1132 3 y0) fun u1 =>
    zlet (sI u1 1132 8 x2) fun u2 =>
    f164_285 n (x1 + (1 : Int32)) u2
def f164_253 (n : Nat) (x1 : Int32) (y0 : Int32) (s : zσ) : Option zσ :=
    zlet (sI s 1132 3 y0) fun u1 =>
    f164_285 n x1 u1
def f164_236 (n : Nat) (x1 : Int32) (s : zσ) : Option zσ :=
    if (9 : Int32) < (x1 - (s.1 1132 4)) then
    f164_253 n x1 (4 : Int32) s
    else f164_253 n x1 (2 : Int32) s
def f164_227 (n : Nat) (r171 : Int32 → zσ → Option zσ) (x1 : Int32) (y0 : Int32) (s : zσ) : Option zσ :=
    zlet (sI s 1132 7 y0) fun u1 =>
    r171 (x1 + (1 : Int32)) u1
def f164_171 (n : Nat) : Nat → Int32 → zσ → Option zσ
  | 0, _, _ => none
  | j + 1, x1, s =>
    if x1 < (s.1 1132 1) then
    if zin? x1 4000 = true then
    yb1 (f166 n (s.1 1133 (nx x1)) s) fun v2 u1 =>
    if v2 = (0 : Int32) then
    f164_236 n x1 u1
    else if (x1 - (u1.1 1132 4)) < (9 : Int32) then
    if zin? x1 4000 = true then
    f164_227 n (f164_171 n j) x1 ((((10 : Int32) * (u1.1 1132 7)) + (u1.1 1133 (nx x1))) - (48 : Int32)) u1
    else none
    else f164_227 n (f164_171 n j) x1 (u1.1 1132 7) u1
    else none
    else f164_236 n x1 s
def f164_153 (n : Nat) (x1 : Int32) (y0 : Int32) (s : zσ) : Option zσ :=
    zlet (sI s 1132 3 y0) fun u1 =>
    f164_285 n x1 u1
def f164_136 (n : Nat) (x1 : Int32) (s : zσ) : Option zσ :=
    if (8 : Int32) < (x1 - (s.1 1132 4)) then
    f164_153 n x1 (4 : Int32) s
    else f164_153 n x1 (1 : Int32) s
def f164_111 (n : Nat) (r79 : Int32 → zσ → Option zσ) (x1 : Int32) (s : zσ) : Option zσ :=
    if zin? x1 4000 = true then
    zlet (sJ s 1132 6 (((s.2.1 1132 6) <<< ((8 : Int32).toInt64 &&& 63)) ||| ((s.1 1133 (nx x1)).toInt64))) fun u1 =>
    r79 (x1 + (1 : Int32)) u1
    else none
def f164_79 (n : Nat) : Nat → Int32 → zσ → Option zσ
  | 0, _, _ => none
  | j + 1, x1, s =>
    if x1 < (s.1 1132 1) then
    if zin? x1 4000 = true then
    yb1 (f165 n (s.1 1133 (nx x1)) s) fun v2 u1 =>
    if v2 = (0 : Int32) then
    if zin? x1 4000 = true then
    yb1 (f166 n (u1.1 1133 (nx x1)) u1) fun v4 u3 =>
    if v4 = (0 : Int32) then
    f164_136 n x1 u3
    else f164_111 n (f164_79 n j) x1 u3
    else none
    else f164_111 n (f164_79 n j) x1 u1
    else none
    else f164_136 n x1 s
def f164_41 (n : Nat) (x1 : Int32) (s : zσ) : Option zσ :=
    zlet (sI s 1132 4 x1) fun u1 =>
    if x1 = (u1.1 1132 1) then
    zlet (sI u1 1132 3 (0 : Int32)) fun u9 =>
    some u9
    else if zin? x1 4000 = true then
    zlet ((u1.1 1133 (nx x1))) fun v2 =>
    yb1 (f165 n v2 u1) fun v4 u3 =>
    if v4 = (0 : Int32) then
    yb1 (f166 n v2 u3) fun v6 u5 =>
    if v6 = (0 : Int32) then
    if (zidx 2 v2) < (0 : Int32) then
    f164_274 n x1 v2 (4 : Int32) u5
    else f164_274 n x1 v2 (3 : Int32) u5
    else zlet (sI u5 1132 7 (0 : Int32)) fun u7 =>
    f164_171 n n x1 u7
    else zlet (sJ u3 1132 6 (0 : Int64)) fun u8 =>
    f164_79 n n x1 u8
    else none
def f164_35 (n : Nat) (r5 : Int32 → zσ → Option zσ) (x1 : Int32) (s : zσ) : Option zσ :=
    r5 (x1 + (1 : Int32)) s
def f164_5 (n : Nat) : Nat → Int32 → zσ → Option zσ
  | 0, _, _ => none
  | j + 1, x1, s =>
    if x1 < (s.1 1132 1) then
    if zin? x1 4000 = true then
    if (s.1 1133 (nx x1)) = (10 : Int32) then
    f164_35 n (f164_5 n j) x1 s
    else if zin? x1 4000 = true then
    if (s.1 1133 (nx x1)) = (32 : Int32) then
    f164_35 n (f164_5 n j) x1 s
    else f164_41 n x1 s
    else none
    else none
    else f164_41 n x1 s
def f164 (n : Nat) (s : zσ) : Option zσ :=
    zlet ((s.1 1132 5)) fun v1 =>
    f164_5 n n v1 s
def f167 (n : Nat) (s : zσ) : Option (Int32 × zσ) :=
    if (s.1 1132 9) = (0 : Int32) then
    some ((1 : Int32), s)
    else some ((0 : Int32), s)
def f171_4 (n : Nat) : Nat → Nat → Int64 → Int32 → zσ → Option (Int64 × zσ)
  | 0, _, _, _, _ => none
  | j + 1, x0, x1, x3, s =>
    if x3 < (Int32.ofNat (zlen.getD x0 0)) then
    if zin? x3 (zlen.getD x0 0) = true then
    zlet (((x1 <<< ((8 : Int32).toInt64 &&& 63)) ||| ((zchr x0 (nx x3)).toInt64))) fun v1 =>
    f171_4 n j x0 v1 (x3 + (1 : Int32)) s
    else none
    else some (x1, s)
def f171 (n : Nat) (x0 : Nat) (s : zσ) : Option (Int64 × zσ) :=
    f171_4 n n x0 (0 : Int64) (0 : Int32) s
def f170 (n : Nat) (x1 : Nat) (s : zσ) : Option (Int32 × zσ) :=
    if (s.1 1132 3) = (1 : Int32) then
    yb1 (f171 n x1 s) fun v2 u1 =>
    if (s.2.1 1132 6) = v2 then
    some ((1 : Int32), u1)
    else some ((0 : Int32), u1)
    else some ((0 : Int32), s)
def f169 (n : Nat) (s : zσ) : Option (Int32 × zσ) :=
    yb1 (f170 n 3 s) fun v2 u1 =>
    if v2 = (0 : Int32) then
    yb1 (f170 n 4 u1) fun v4 u3 =>
    if v4 = (0 : Int32) then
    yb1 (f170 n 5 u3) fun v6 u5 =>
    if v6 = (0 : Int32) then
    yb1 (f170 n 6 u5) fun v8 u7 =>
    if v8 = (0 : Int32) then
    yb1 (f170 n 7 u7) fun v10 u9 =>
    if v10 = (0 : Int32) then
    yb1 (f170 n 8 u9) fun v12 u11 =>
    if v12 = (0 : Int32) then
    yb1 (f170 n 9 u11) fun v14 u13 =>
    if v14 = (0 : Int32) then
    yb1 (f170 n 10 u13) fun v16 u15 =>
    if v16 = (0 : Int32) then
    yb1 (f170 n 11 u15) fun v18 u17 =>
    if v18 = (0 : Int32) then
    some ((-1 : Int32), u17)
    else some ((8 : Int32), u17)
    else some ((7 : Int32), u15)
    else some ((6 : Int32), u13)
    else some ((5 : Int32), u11)
    else some ((4 : Int32), u9)
    else some ((3 : Int32), u7)
    else some ((2 : Int32), u5)
    else some ((1 : Int32), u3)
    else some ((0 : Int32), u1)
def f173 (n : Nat) (x1 : Int32) (x2 : Int32) (s : zσ) : Option zσ :=
    if (s.1 1132 9) = (0 : Int32) then
    zlet (sI s 1132 9 x1) fun u1 =>
    zlet (sI u1 1132 10 x2) fun u2 =>
    some u2
    else some s
def f172_14 (n : Nat) (y0 : Int32) (s : zσ) : Option zσ :=
    yb0 (f173 n y0 (s.1 1132 4) s) fun u1 =>
    some u1
def f172 (n : Nat) (s : zσ) : Option zσ :=
    if (s.1 1132 3) = (4 : Int32) then
    f172_14 n (1 : Int32) s
    else f172_14 n (2 : Int32) s
def f176_20 (n : Nat) (r2 : Int64 → Int32 → zσ → Option (Int32 × zσ)) : Nat → Int64 → Int32 → Int64 → zσ → Option (Int32 × zσ)
  | 0, _, _, _, _ => none
  | j + 1, x0, x3, x4, s =>
    if zin? x3 (zlen.getD 12 0) = true then
    if (zchr 12 (nx x3)) = (32 : Int32) then
    if x4 = x0 then
    some ((1 : Int32), s)
    else r2 x0 x3 s
    else if zin? x3 (zlen.getD 12 0) = true then
    zlet (((x4 <<< ((8 : Int32).toInt64 &&& 63)) ||| ((zchr 12 (nx x3)).toInt64))) fun v1 =>
    f176_20 n r2 j x0 (x3 + (1 : Int32)) v1 s
    else none
    else none
def f176_2 (n : Nat) : Nat → Int64 → Int32 → zσ → Option (Int32 × zσ)
  | 0, _, _, _ => none
  | j + 1, x0, x2, s =>
    if (x2 + (1 : Int32)) < (Int32.ofNat (zlen.getD 12 0)) then
    zlet ((x2 + (1 : Int32))) fun v1 =>
    f176_20 n (f176_2 n j) n x0 v1 (0 : Int64) s
    else some ((0 : Int32), s)
def f176 (n : Nat) (x0 : Int64) (s : zσ) : Option (Int32 × zσ) :=
    f176_2 n n x0 (0 : Int32) s
def f175 (n : Nat) (s : zσ) : Option (Int32 × zσ) :=
    if (s.1 1132 3) = (1 : Int32) then
    yb1 (f176 n (s.2.1 1132 6) s) fun v2 u1 =>
    if v2 = (0 : Int32) then
    some ((1 : Int32), u1)
    else some ((0 : Int32), u1)
    else some ((0 : Int32), s)
def f174_86 (n : Nat) : Nat → Int32 → Nat → Int32 → zσ → Option (Int32 × zσ)
  | 0, _, _, _, _ => none
  | j + 1, x1, x2, x4, s =>
    if x4 < (s.1 x2 0) then
    if zin? x4 60 = true then
    if (s.2.1 (x2 + 1) (nx x4)) = (s.2.1 1132 6) then
    yb0 (f173 n (4 : Int32) (s.1 1132 4) s) fun u7 =>
    some ((0 : Int32), u7)
    else f174_86 n j x1 x2 (x4 + (1 : Int32)) s
    else none
    else if zin? (s.1 x2 0) 60 = true then
    zlet (sJ s (x2 + 1) (nx (s.1 x2 0)) (s.2.1 1132 6)) fun u1 =>
    if zin? (u1.1 x2 0) 60 = true then
    zlet (sI u1 (x2 + 2) (nx (u1.1 x2 0)) x1) fun u2 =>
    if zin? x1 9 = true then
    if zin? (u2.1 x2 0) 60 = true then
    zlet (sI u2 (x2 + 3) (nx (u2.1 x2 0)) (u2.1 (x2 + 4) (nx x1))) fun u3 =>
    zlet (sI u3 x2 0 ((u3.1 x2 0) + (1 : Int32))) fun u4 =>
    if zin? x1 9 = true then
    if zin? x1 9 = true then
    zlet (sI u4 (x2 + 4) (nx x1) ((u4.1 (x2 + 4) (nx x1)) + (1 : Int32))) fun u5 =>
    yb0 (f164 n u5) fun u6 =>
    if zin? x1 9 = true then
    some (((u6.1 (x2 + 4) (nx x1)) - (1 : Int32)), u6)
    else none
    else none
    else none
    else none
    else none
    else none
    else none
def f174_61 (n : Nat) (x1 : Int32) (x2 : Nat) (y0 : Int32) (s : zσ) : Option (Int32 × zσ) :=
    if zin? x1 9 = true then
    if y0 = (s.1 1206 (nx x1)) then
    yb0 (f173 n (3 : Int32) (s.1 1132 4) s) fun u1 =>
    some ((0 : Int32), u1)
    else f174_86 n n x1 x2 (0 : Int32) s
    else none
def f174_38 (n : Nat) (x1 : Int32) (x2 : Nat) (s : zσ) : Option (Int32 × zσ) :=
    if zin? (5 : Int32) 9 = true then
    if zin? (6 : Int32) 9 = true then
    f174_61 n x1 x2 ((s.1 (x2 + 4) (nx (5 : Int32))) + (s.1 (x2 + 4) (nx (6 : Int32)))) s
    else none
    else none
def f174 (n : Nat) (x1 : Int32) (s : zσ) : Option (Int32 × zσ) :=
    zrd 12 (s.2.2 1132 12) fun a1 =>
    yb1 (f167 n s) fun v3 u2 =>
    if v3 = (0 : Int32) then
    some ((0 : Int32), u2)
    else yb1 (f175 n u2) fun v5 u4 =>
    if v5 = (0 : Int32) then
    yb0 (f172 n u4) fun u6 =>
    some ((0 : Int32), u6)
    else if x1 = (5 : Int32) then
    f174_38 n x1 a1 u4
    else if x1 = (6 : Int32) then
    f174_38 n x1 a1 u4
    else if zin? x1 9 = true then
    f174_61 n x1 a1 (u4.1 (a1 + 4) (nx x1)) u4
    else none
def f177 (n : Nat) (x1 : Int32) (s : zσ) : Option (Int32 × zσ) :=
    if (s.1 1132 3) = (3 : Int32) then
    if (s.1 1132 8) = x1 then
    some ((1 : Int32), s)
    else some ((0 : Int32), s)
    else some ((0 : Int32), s)
def f178_48 (n : Nat) (s : zσ) : Option (Int32 × zσ) :=
    zlet ((s.1 1132 7)) fun v1 =>
    yb0 (f164 n s) fun u2 =>
    some (v1, u2)
def f178_39 (n : Nat) (s : zσ) : Option (Int32 × zσ) :=
    yb0 (f173 n (5 : Int32) (s.1 1132 4) s) fun u1 =>
    f178_48 n u1
def f178 (n : Nat) (x1 : Int32) (x2 : Int32) (s : zσ) : Option (Int32 × zσ) :=
    yb1 (f167 n s) fun v2 u1 =>
    if v2 = (0 : Int32) then
    some ((0 : Int32), u1)
    else if (u1.1 1132 3) = (2 : Int32) then
    if (u1.1 1132 7) < x1 then
    f178_39 n u1
    else if x2 < (u1.1 1132 7) then
    f178_39 n u1
    else f178_48 n u1
    else yb0 (f172 n u1) fun u3 =>
    some ((0 : Int32), u3)
def f179 (n : Nat) (x1 : Int32) (s : zσ) : Option zσ :=
    yb1 (f167 n s) fun v2 u1 =>
    if v2 = (0 : Int32) then
    some u1
    else yb1 (f177 n x1 u1) fun v4 u3 =>
    if v4 = (0 : Int32) then
    yb0 (f172 n u3) fun u5 =>
    some u5
    else yb0 (f164 n u3) fun u6 =>
    some u6
def f180_65 (n : Nat) (r30 : Int32 → Nat → Int32 → Int32 → zσ → Option zσ) : Nat → Int32 → Nat → Int32 → Int32 → zσ → Option zσ
  | 0, _, _, _, _, _ => none
  | j + 1, x1, x2, x3, x5, s =>
    if x5 < x3 then
    if zin? (((3 : Int32) * x1) + x5) 18 = true then
    if (s.2.1 (x2 + 12) (nx (((3 : Int32) * x1) + x5))) = (s.2.1 1132 6) then
    yb0 (f173 n (4 : Int32) (s.1 1132 4) s) fun u6 =>
    some u6
    else f180_65 n r30 j x1 x2 x3 (x5 + (1 : Int32)) s
    else none
    else if zin? (((3 : Int32) * x1) + x3) 18 = true then
    zlet (sJ s (x2 + 12) (nx (((3 : Int32) * x1) + x3)) (s.2.1 1132 6)) fun u1 =>
    yb0 (f164 n u1) fun u2 =>
    yb1 (f177 n (44 : Int32) u2) fun v4 u3 =>
    if v4 = (0 : Int32) then
    r30 x1 x2 (x3 + (1 : Int32)) v4 u3
    else yb0 (f164 n u3) fun u5 =>
    r30 x1 x2 (x3 + (1 : Int32)) v4 u5
    else none
def f180_30 (n : Nat) : Nat → Int32 → Nat → Int32 → Int32 → zσ → Option zσ
  | 0, _, _, _, _, _ => none
  | j + 1, x1, x2, x3, x4, s =>
    if x4 = (0 : Int32) then
    if zin? x1 6 = true then
    zlet (sI s (x2 + 11) (nx x1) x3) fun u1 =>
    some u1
    else none
    else yb1 (f175 n s) fun v3 u2 =>
    if v3 = (0 : Int32) then
    yb0 (f172 n u2) fun u5 =>
    some u5
    else if x3 = (3 : Int32) then
    yb0 (f173 n (3 : Int32) (u2.1 1132 4) u2) fun u4 =>
    some u4
    else f180_65 n (f180_30 n j) n x1 x2 x3 (0 : Int32) u2
def f180_28 (n : Nat) (x1 : Int32) (x2 : Nat) (x3 : Int32) (y0 : Int32) (s : zσ) : Option zσ :=
    f180_30 n n x1 x2 x3 y0 s
def f180_27 (n : Nat) (x1 : Int32) (x2 : Nat) (x3 : Int32) (s : zσ) : Option zσ :=
    f180_28 n x1 x2 x3 (0 : Int32) s
def f180 (n : Nat) (x1 : Int32) (s : zσ) : Option zσ :=
    zrd 12 (s.2.2 1132 12) fun a1 =>
    yb1 (f167 n s) fun v3 u2 =>
    if v3 = (0 : Int32) then
    f180_27 n x1 a1 (0 : Int32) u2
    else yb1 (f177 n (41 : Int32) u2) fun v5 u4 =>
    if v5 = (0 : Int32) then
    f180_28 n x1 a1 (0 : Int32) (1 : Int32) u4
    else f180_27 n x1 a1 (0 : Int32) u4
def f182_25 (n : Nat) (s : zσ) : Option zσ :=
    zlet (sI s 1132 14 ((s.1 1132 14) + (1 : Int32))) fun u1 =>
    some u1
def f182 (n : Nat) (s : zσ) : Option zσ :=
    yb1 (f167 n s) fun v2 u1 =>
    if v2 = (0 : Int32) then
    f182_25 n u1
    else if (u1.1 1132 14) = (12 : Int32) then
    yb0 (f173 n (3 : Int32) (u1.1 1132 4) u1) fun u3 =>
    f182_25 n u3
    else f182_25 n u1
def f183_56 (n : Nat) (g : zσ → Option (Int32 × zσ)) (x1 : Int32) (x2 : Int32) (s : zσ) : Option zσ :=
    zrd 12 (s.2.2 1132 12) fun a1 =>
    if zin? (((20 : Int32) * x1) + x2) 40000 = true then
    if (s.1 (a1 + 14) (nx (((20 : Int32) * x1) + x2))) = (-1 : Int32) then
    yb0 (f164 n s) fun u2 =>
    zrd 12 (u2.2.2 1132 12) fun a3 =>
    if zin? (((20 : Int32) * x1) + x2) 40000 = true then
    zlet (sI u2 (a3 + 14) (nx (((20 : Int32) * x1) + x2)) (0 : Int32)) fun u4 =>
    yb1 (g u4) fun v6 u5 =>
    zrd 12 (u5.2.2 1132 12) fun a7 =>
    if zin? (((20 : Int32) * x1) + x2) 40000 = true then
    zlet (sI u5 (a7 + 14) (nx (((20 : Int32) * x1) + x2)) v6) fun u8 =>
    some u8
    else none
    else none
    else yb0 (f173 n (5 : Int32) (s.1 1132 4) s) fun u9 =>
    some u9
    else none
def f183_41 (n : Nat) (g : zσ → Option (Int32 × zσ)) (s : zσ) : Option zσ :=
    yb0 (f173 n (5 : Int32) (s.1 1132 4) s) fun u1 =>
    some u1
def f183 (n : Nat) (g : zσ → Option (Int32 × zσ)) (x1 : Int32) (s : zσ) : Option zσ :=
    yb1 (f170 n 14 s) fun v2 u1 =>
    if v2 = (0 : Int32) then
    if (u1.1 1132 3) = (2 : Int32) then
    zlet ((u1.1 1132 7)) fun v4 =>
    if v4 < (1 : Int32) then
    f183_41 n g u1
    else if (19 : Int32) < v4 then
    f183_41 n g u1
    else f183_56 n g x1 v4 u1
    else yb0 (f172 n u1) fun u3 =>
    some u3
    else f183_56 n g x1 (0 : Int32) u1
def f185 (n : Nat) (s : zσ) : Option (Int32 × zσ) :=
    yb1 (f170 n 15 s) fun v2 u1 =>
    if v2 = (0 : Int32) then
    yb1 (f170 n 16 u1) fun v4 u3 =>
    if v4 = (0 : Int32) then
    yb1 (f170 n 17 u3) fun v6 u5 =>
    if v6 = (0 : Int32) then
    yb1 (f170 n 18 u5) fun v8 u7 =>
    if v8 = (0 : Int32) then
    some ((0 : Int32), u7)
    else some ((4 : Int32), u7)
    else some ((3 : Int32), u5)
    else some ((2 : Int32), u3)
    else some ((1 : Int32), u1)
def f187 (n : Nat) (x0 : Int64) (s : zσ) : Option (Int32 × zσ) :=
    yb1 (f171 n 32 s) fun v2 u1 =>
    if x0 = v2 then
    some ((16 : Int32), u1)
    else yb1 (f171 n 33 u1) fun v4 u3 =>
    if x0 = v4 then
    some ((17 : Int32), u3)
    else yb1 (f171 n 34 u3) fun v6 u5 =>
    if x0 = v6 then
    some ((18 : Int32), u5)
    else yb1 (f171 n 35 u5) fun v8 u7 =>
    if x0 = v8 then
    some ((19 : Int32), u7)
    else yb1 (f171 n 36 u7) fun v10 u9 =>
    if x0 = v10 then
    some ((20 : Int32), u9)
    else yb1 (f171 n 37 u9) fun v12 u11 =>
    if x0 = v12 then
    some ((21 : Int32), u11)
    else yb1 (f171 n 38 u11) fun v14 u13 =>
    if x0 = v14 then
    some ((22 : Int32), u13)
    else yb1 (f171 n 39 u13) fun v16 u15 =>
    if x0 = v16 then
    some ((23 : Int32), u15)
    else yb1 (f171 n 40 u15) fun v18 u17 =>
    if x0 = v18 then
    some ((24 : Int32), u17)
    else yb1 (f171 n 41 u17) fun v20 u19 =>
    if x0 = v20 then
    some ((25 : Int32), u19)
    else yb1 (f171 n 42 u19) fun v22 u21 =>
    if x0 = v22 then
    some ((26 : Int32), u21)
    else yb1 (f171 n 43 u21) fun v24 u23 =>
    if x0 = v24 then
    some ((27 : Int32), u23)
    else yb1 (f171 n 44 u23) fun v26 u25 =>
    if x0 = v26 then
    some ((28 : Int32), u25)
    else some ((0 : Int32), u25)
def f186 (n : Nat) (x0 : Int64) (s : zσ) : Option (Int32 × zσ) :=
    yb1 (f171 n 19 s) fun v2 u1 =>
    if x0 = v2 then
    some ((3 : Int32), u1)
    else yb1 (f171 n 20 u1) fun v4 u3 =>
    if x0 = v4 then
    some ((4 : Int32), u3)
    else yb1 (f171 n 21 u3) fun v6 u5 =>
    if x0 = v6 then
    some ((5 : Int32), u5)
    else yb1 (f171 n 22 u5) fun v8 u7 =>
    if x0 = v8 then
    some ((6 : Int32), u7)
    else yb1 (f171 n 23 u7) fun v10 u9 =>
    if x0 = v10 then
    some ((7 : Int32), u9)
    else yb1 (f171 n 24 u9) fun v12 u11 =>
    if x0 = v12 then
    some ((8 : Int32), u11)
    else yb1 (f171 n 25 u11) fun v14 u13 =>
    if x0 = v14 then
    some ((9 : Int32), u13)
    else yb1 (f171 n 26 u13) fun v16 u15 =>
    if x0 = v16 then
    some ((10 : Int32), u15)
    else yb1 (f171 n 27 u15) fun v18 u17 =>
    if x0 = v18 then
    some ((11 : Int32), u17)
    else yb1 (f171 n 28 u17) fun v20 u19 =>
    if x0 = v20 then
    some ((12 : Int32), u19)
    else yb1 (f171 n 29 u19) fun v22 u21 =>
    if x0 = v22 then
    some ((13 : Int32), u21)
    else yb1 (f171 n 30 u21) fun v24 u23 =>
    if x0 = v24 then
    some ((14 : Int32), u23)
    else yb1 (f171 n 31 u23) fun v26 u25 =>
    if x0 = v26 then
    some ((15 : Int32), u25)
    else yb1 (f187 n x0 u25) fun v28 u27 =>
    some (v28, u27)
def f189 (n : Nat) (x1 : Int32) (s : zσ) : Option (Int32 × zσ) :=
    yb1 (f167 n s) fun v2 u1 =>
    if v2 = (0 : Int32) then
    some ((0 : Int32), u1)
    else yb1 (f175 n u1) fun v4 u3 =>
    if v4 = (0 : Int32) then
    yb0 (f172 n u3) fun u13 =>
    some ((0 : Int32), u13)
    else zrd 12 (u3.2.2 1132 12) fun a5 =>
    if zin? (u3.1 a5 34) 1400 = true then
    zlet (sJ u3 (a5 + 29) (nx (u3.1 a5 34)) (u3.2.1 1132 6)) fun u6 =>
    if zin? (u6.1 a5 34) 1400 = true then
    zlet (sI u6 (a5 + 30) (nx (u6.1 a5 34)) (u6.1 1132 4)) fun u7 =>
    if zin? (u7.1 a5 34) 1400 = true then
    zlet (sI u7 (a5 + 31) (nx (u7.1 a5 34)) x1) fun u8 =>
    if zin? (u8.1 a5 34) 1400 = true then
    zlet (sI u8 (a5 + 32) (nx (u8.1 a5 34)) (u8.1 1132 15)) fun u9 =>
    if zin? (u9.1 a5 34) 1400 = true then
    zlet (sI u9 (a5 + 35) (nx (u9.1 a5 34)) (-1 : Int32)) fun u10 =>
    zlet (sI u10 a5 34 ((u10.1 a5 34) + (1 : Int32))) fun u11 =>
    yb0 (f164 n u11) fun u12 =>
    some (((u12.1 a5 34) - (1 : Int32)), u12)
    else none
    else none
    else none
    else none
    else none
def f195_49 (n : Nat) (y0 : Int32) (y1 : Int32) (y2 : Nat) (s : zσ) : Option zσ :=
    zlet (sI s y2 27 (y1 + y0)) fun u1 =>
    some u1
def f195_29 (n : Nat) (s : zσ) : Option zσ :=
    zrd 12 (s.2.2 1132 12) fun a1 =>
    yb1 (f167 n s) fun v3 u2 =>
    if v3 = (0 : Int32) then
    f195_49 n (0 : Int32) (s.1 a1 27) a1 u2
    else f195_49 n (1 : Int32) (s.1 a1 27) a1 u2
def f195 (n : Nat) (s : zσ) : Option zσ :=
    yb1 (f167 n s) fun v2 u1 =>
    if v2 = (0 : Int32) then
    f195_29 n u1
    else zrd 12 (u1.2.2 1132 12) fun a3 =>
    if (u1.1 a3 27) = (400 : Int32) then
    yb0 (f173 n (3 : Int32) (u1.1 1132 4) u1) fun u4 =>
    f195_29 n u4
    else f195_29 n u1
def f196 (n : Nat) (x1 : Int32) (x2 : Int32) (s : zσ) : Option zσ :=
    yb1 (f167 n s) fun v2 u1 =>
    if v2 = (0 : Int32) then
    some u1
    else zrd 12 (u1.2.2 1132 12) fun a3 =>
    zrd 12 (u1.2.2 1132 12) fun a4 =>
    if zin? (u1.1 a4 31) 900 = true then
    zlet (sI u1 (a3 + 27) (nx (u1.1 a4 31)) x1) fun u5 =>
    zrd 12 (u5.2.2 1132 12) fun a6 =>
    zrd 12 (u5.2.2 1132 12) fun a7 =>
    if zin? (u5.1 a7 31) 900 = true then
    zlet (sI u5 (a6 + 28) (nx (u5.1 a7 31)) x2) fun u8 =>
    zrd 12 (u8.2.2 1132 12) fun a9 =>
    zlet (sI u8 a9 31 ((u8.1 a9 31) + (1 : Int32))) fun u10 =>
    some u10
    else none
    else none
def f193_38 (n : Nat) (g : zσ → Option zσ) (r4 : zσ → Option zσ) (s : zσ) : Option zσ :=
    zlet ((s.1 1132 8)) fun v1 =>
    yb0 (f195 n s) fun u2 =>
    yb0 (f164 n u2) fun u3 =>
    yb0 (g u3) fun u4 =>
    yb0 (f196 n (7 : Int32) v1 u4) fun u5 =>
    r4 u5
def f193_4 (n : Nat) (g : zσ → Option zσ) : Nat → zσ → Option zσ
  | 0, _ => none
  | j + 1, s =>
    yb1 (f167 n s) fun v2 u1 =>
    if v2 = (0 : Int32) then
    some u1
    else yb1 (f177 n (42 : Int32) u1) fun v4 u3 =>
    if v4 = (0 : Int32) then
    yb1 (f177 n (47 : Int32) u3) fun v6 u5 =>
    if v6 = (0 : Int32) then
    yb1 (f177 n (37 : Int32) u5) fun v8 u7 =>
    if v8 = (0 : Int32) then
    some u7
    else f193_38 n g (f193_4 n g j) u7
    else f193_38 n g (f193_4 n g j) u5
    else f193_38 n g (f193_4 n g j) u3
def f193 (n : Nat) (g : zσ → Option zσ) (s : zσ) : Option zσ :=
    yb0 (g s) fun u1 =>
    f193_4 n g n u1
def f192_29 (n : Nat) (g : zσ → Option zσ) (r4 : zσ → Option zσ) (s : zσ) : Option zσ :=
    zlet ((s.1 1132 8)) fun v1 =>
    yb0 (f195 n s) fun u2 =>
    yb0 (f164 n u2) fun u3 =>
    yb0 (f193 n g u3) fun u4 =>
    yb0 (f196 n (7 : Int32) v1 u4) fun u5 =>
    r4 u5
def f192_4 (n : Nat) (g : zσ → Option zσ) : Nat → zσ → Option zσ
  | 0, _ => none
  | j + 1, s =>
    yb1 (f167 n s) fun v2 u1 =>
    if v2 = (0 : Int32) then
    some u1
    else yb1 (f177 n (43 : Int32) u1) fun v4 u3 =>
    if v4 = (0 : Int32) then
    yb1 (f177 n (45 : Int32) u3) fun v6 u5 =>
    if v6 = (0 : Int32) then
    some u5
    else f192_29 n g (f192_4 n g j) u5
    else f192_29 n g (f192_4 n g j) u3
def f192 (n : Nat) (g : zσ → Option zσ) (s : zσ) : Option zσ :=
    yb0 (f193 n g s) fun u1 =>
    f192_4 n g n u1
def f191_38 (n : Nat) (g : zσ → Option zσ) (s : zσ) : Option zσ :=
    zlet ((s.1 1132 8)) fun v1 =>
    yb0 (f195 n s) fun u2 =>
    yb0 (f164 n u2) fun u3 =>
    yb0 (f192 n g u3) fun u4 =>
    yb0 (f196 n (7 : Int32) v1 u4) fun u5 =>
    some u5
def f191 (n : Nat) (g : zσ → Option zσ) (s : zσ) : Option zσ :=
    yb0 (f192 n g s) fun u1 =>
    yb1 (f167 n u1) fun v3 u2 =>
    if v3 = (0 : Int32) then
    some u2
    else yb1 (f177 n (61 : Int32) u2) fun v5 u4 =>
    if v5 = (0 : Int32) then
    yb1 (f177 n (60 : Int32) u4) fun v7 u6 =>
    if v7 = (0 : Int32) then
    yb1 (f177 n (62 : Int32) u6) fun v9 u8 =>
    if v9 = (0 : Int32) then
    some u8
    else f191_38 n g u8
    else f191_38 n g u6
    else f191_38 n g u4
def f197_77 (n : Nat) (g : zσ → Option zσ) (x1 : Int32) (s : zσ) : Option zσ :=
    yb0 (f196 n (1 : Int32) x1 s) fun u1 =>
    some u1
def f197 (n : Nat) (g : zσ → Option zσ) (s : zσ) : Option zσ :=
    yb1 (f189 n (10 : Int32) s) fun v2 u1 =>
    yb1 (f167 n u1) fun v4 u3 =>
    if v4 = (0 : Int32) then
    f197_77 n g v2 u3
    else yb1 (f177 n (91 : Int32) u3) fun v6 u5 =>
    if v6 = (0 : Int32) then
    f197_77 n g v2 u5
    else zrd 12 (u5.2.2 1132 12) fun a7 =>
    if zin? v2 1400 = true then
    zlet (sI u5 (a7 + 31) (nx v2) (1 : Int32)) fun u8 =>
    yb0 (f182 n u8) fun u9 =>
    yb1 (f167 n u9) fun v11 u10 =>
    if v11 = (0 : Int32) then
    some u10
    else yb0 (f164 n u10) fun u12 =>
    yb0 (f191 n g u12) fun u13 =>
    yb0 (f179 n (93 : Int32) u13) fun u14 =>
    zlet (sI u14 1132 14 ((u14.1 1132 14) - (1 : Int32))) fun u15 =>
    yb0 (f196 n (2 : Int32) v2 u15) fun u16 =>
    some u16
    else none
def f194_111 (n : Nat) (g : zσ → Option zσ) (y0 : Int32) (y2 : Int32) (s : zσ) : Option zσ :=
    yb1 (f189 n y0 s) fun v2 u1 =>
    yb0 (f196 n y2 v2 u1) fun u3 =>
    some u3
def f194_100 (n : Nat) (g : zσ → Option zσ) (x1 : Int32) (y0 : Int32) (s : zσ) : Option zσ :=
    if x1 = (0 : Int32) then
    f194_111 n g (8 : Int32) y0 s
    else f194_111 n g (1 : Int32) y0 s
def f194_74 (n : Nat) (g : zσ → Option zσ) (s : zσ) : Option zσ :=
    yb1 (f170 n 45 s) fun v2 u1 =>
    yb0 (f195 n u1) fun u3 =>
    yb0 (f164 n u3) fun u4 =>
    if v2 = (0 : Int32) then
    f194_100 n g v2 (5 : Int32) u4
    else f194_100 n g v2 (3 : Int32) u4
def f194b (n : Nat) (g : zσ → Option zσ) (s : zσ) : Option zσ :=
    yb1 (f167 n s) fun v2 u1 =>
    if v2 = (0 : Int32) then
    some u1
    else if (u1.1 1132 3) = (2 : Int32) then
    yb0 (f195 n u1) fun u36 =>
    yb0 (f196 n (0 : Int32) (u36.1 1132 7) u36) fun u37 =>
    yb0 (f164 n u37) fun u38 =>
    some u38
    else yb1 (f175 n u1) fun v4 u3 =>
    if v4 = (0 : Int32) then
    yb1 (f170 n 45 u3) fun v6 u5 =>
    if v6 = (0 : Int32) then
    yb1 (f170 n 46 u5) fun v8 u7 =>
    if v8 = (0 : Int32) then
    yb1 (f170 n 47 u7) fun v10 u9 =>
    if v10 = (0 : Int32) then
    yb1 (f177 n (45 : Int32) u9) fun v12 u11 =>
    if v12 = (0 : Int32) then
    yb1 (f177 n (40 : Int32) u11) fun v14 u13 =>
    if v14 = (0 : Int32) then
    yb0 (f172 n u13) fun u15 =>
    some u15
    else yb0 (f182 n u13) fun u16 =>
    yb1 (f167 n u16) fun v18 u17 =>
    if v18 = (0 : Int32) then
    some u17
    else yb0 (f164 n u17) fun u19 =>
    yb0 (f191 n g u19) fun u20 =>
    yb0 (f179 n (41 : Int32) u20) fun u21 =>
    zlet (sI u21 1132 14 ((u21.1 1132 14) - (1 : Int32))) fun u22 =>
    some u22
    else yb0 (f195 n u11) fun u23 =>
    yb0 (f182 n u23) fun u24 =>
    yb1 (f167 n u24) fun v26 u25 =>
    if v26 = (0 : Int32) then
    some u25
    else yb0 (f164 n u25) fun u27 =>
    yb0 (g u27) fun u28 =>
    zlet (sI u28 1132 14 ((u28.1 1132 14) - (1 : Int32))) fun u29 =>
    yb0 (f196 n (6 : Int32) (0 : Int32) u29) fun u30 =>
    some u30
    else yb0 (f195 n u9) fun u31 =>
    yb0 (f164 n u31) fun u32 =>
    yb0 (f196 n (4 : Int32) (0 : Int32) u32) fun u33 =>
    some u33
    else f194_74 n g u7
    else f194_74 n g u5
    else yb0 (f195 n u3) fun u34 =>
    yb0 (f197 n g u34) fun u35 =>
    some u35
def f194 (n : Nat) : Nat → zσ → Option zσ
  | 0, _ => none
  | k + 1, s => f194b n (f194 n k) s
def f190_79 (n : Nat) (s : zσ) : Option (Int32 × zσ) :=
    zrd 12 (s.2.2 1132 12) fun a1 =>
    some (((s.1 a1 28) - (1 : Int32)), s)
def f190 (n : Nat) (s : zσ) : Option (Int32 × zσ) :=
    yb1 (f167 n s) fun v2 u1 =>
    if v2 = (0 : Int32) then
    some ((0 : Int32), u1)
    else zrd 12 (u1.2.2 1132 12) fun a3 =>
    zlet ((u1.1 a3 31)) fun v4 =>
    yb0 (f191 n (f194 n 20) u1) fun u5 =>
    yb1 (f167 n u5) fun v7 u6 =>
    if v7 = (0 : Int32) then
    f190_79 n u6
    else zrd 12 (u6.2.2 1132 12) fun a8 =>
    zrd 12 (u6.2.2 1132 12) fun a9 =>
    if zin? (u6.1 a9 28) 401 = true then
    zlet (sI u6 (a8 + 25) (nx (u6.1 a9 28)) v4) fun u10 =>
    zrd 12 (u10.2.2 1132 12) fun a11 =>
    zrd 12 (u10.2.2 1132 12) fun a12 =>
    zrd 12 (u10.2.2 1132 12) fun a13 =>
    if zin? (u10.1 a12 28) 401 = true then
    zlet (sI u10 (a11 + 26) (nx (u10.1 a12 28)) (u10.1 a13 31)) fun u14 =>
    zrd 12 (u14.2.2 1132 12) fun a15 =>
    zlet (sI u14 a15 28 ((u14.1 a15 28) + (1 : Int32))) fun u16 =>
    f190_79 n u16
    else none
    else none
def f188_150 (n : Nat) (x1 : Int32) (x3 : Nat) (y0 : Int32) (y1 : Int32) (y2 : Nat) (s : zσ) : Option zσ :=
    if zin? y1 200 = true then
    zlet (sI s y2 (nx y1) y0) fun u1 =>
    yb0 (f164 n u1) fun u2 =>
    yb1 (f189 n (8 : Int32) u2) fun v4 u3 =>
    if zin? x1 200 = true then
    zlet (sI u3 (x3 + 17) (nx x1) v4) fun u5 =>
    some u5
    else none
    else none
def f188_128 (n : Nat) (x1 : Int32) (x3 : Nat) (s : zσ) : Option zσ :=
    yb1 (f170 n 32 s) fun v2 u1 =>
    if v2 = (0 : Int32) then
    f188_150 n x1 x3 (17 : Int32) x1 (x3 + 15) u1
    else f188_150 n x1 x3 (16 : Int32) x1 (x3 + 15) u1
def f188_101 (n : Nat) (x1 : Int32) (x3 : Nat) (s : zσ) : Option zσ :=
    yb1 (f167 n s) fun v2 u1 =>
    if v2 = (0 : Int32) then
    some u1
    else yb1 (f170 n 32 u1) fun v4 u3 =>
    if v4 = (0 : Int32) then
    yb1 (f170 n 33 u3) fun v6 u5 =>
    if v6 = (0 : Int32) then
    yb0 (f172 n u5) fun u7 =>
    some u7
    else f188_128 n x1 x3 u5
    else f188_128 n x1 x3 u3
def f188 (n : Nat) (x1 : Int32) (x2 : Int32) (s : zσ) : Option zσ :=
    zrd 12 (s.2.2 1132 12) fun a1 =>
    if zin? x1 200 = true then
    zlet (sI s (a1 + 19) (nx x1) x2) fun u2 =>
    yb0 (f164 n u2) fun u3 =>
    if x2 = (4 : Int32) then
    yb1 (f189 n (4 : Int32) u3) fun v18 u17 =>
    if zin? x1 200 = true then
    zlet (sI u17 (a1 + 18) (nx x1) v18) fun u19 =>
    f188_101 n x1 a1 u19
    else none
    else yb1 (f190 n u3) fun v5 u4 =>
    if zin? ((4 : Int32) * x1) 800 = true then
    zlet (sI u4 (a1 + 22) (nx ((4 : Int32) * x1)) v5) fun u6 =>
    if zin? x1 200 = true then
    zlet (sI u6 (a1 + 20) (nx x1) (1 : Int32)) fun u7 =>
    yb1 (f167 n u7) fun v9 u8 =>
    if v9 = (0 : Int32) then
    f188_101 n x1 a1 u8
    else if x2 = (3 : Int32) then
    yb1 (f170 n 48 u8) fun v11 u10 =>
    if v11 = (0 : Int32) then
    f188_101 n x1 a1 u10
    else yb0 (f164 n u10) fun u12 =>
    yb1 (f190 n u12) fun v14 u13 =>
    if zin? (((4 : Int32) * x1) + (1 : Int32)) 800 = true then
    zlet (sI u13 (a1 + 22) (nx (((4 : Int32) * x1) + (1 : Int32))) v14) fun u15 =>
    if zin? x1 200 = true then
    zlet (sI u15 (a1 + 20) (nx x1) (2 : Int32)) fun u16 =>
    f188_101 n x1 a1 u16
    else none
    else none
    else f188_101 n x1 a1 u8
    else none
    else none
    else none
def f200_63 (n : Nat) (s : zσ) : Option (Int32 × zσ) :=
    some ((1 : Int32), s)
def f200 (n : Nat) (s : zσ) : Option (Int32 × zσ) :=
    if (s.1 1132 3) = (2 : Int32) then
    f200_63 n s
    else yb1 (f175 n s) fun v2 u1 =>
    if v2 = (0 : Int32) then
    yb1 (f170 n 45 u1) fun v4 u3 =>
    if v4 = (0 : Int32) then
    yb1 (f170 n 46 u3) fun v6 u5 =>
    if v6 = (0 : Int32) then
    yb1 (f170 n 47 u5) fun v8 u7 =>
    if v8 = (0 : Int32) then
    yb1 (f177 n (45 : Int32) u7) fun v10 u9 =>
    if v10 = (0 : Int32) then
    yb1 (f177 n (40 : Int32) u9) fun v12 u11 =>
    if v12 = (0 : Int32) then
    some ((0 : Int32), u11)
    else f200_63 n u11
    else f200_63 n u9
    else f200_63 n u7
    else f200_63 n u5
    else f200_63 n u3
    else f200_63 n u1
def f199_133 (n : Nat) (r51 : Int32 → Nat → Int32 → Int32 → Int32 → zσ → Option zσ) (x1 : Int32) (x2 : Nat) (x3 : Int32) (x4 : Int32) (y0 : Int32) (s : zσ) : Option zσ :=
    if y0 = (0 : Int32) then
    r51 x1 x2 x3 x4 y0 s
    else yb0 (f164 n s) fun u1 =>
    r51 x1 x2 x3 x4 y0 u1
def f199_132 (n : Nat) (r51 : Int32 → Nat → Int32 → Int32 → Int32 → zσ → Option zσ) (x1 : Int32) (x2 : Nat) (x3 : Int32) (x4 : Int32) (s : zσ) : Option zσ :=
    f199_133 n r51 x1 x2 x3 x4 (0 : Int32) s
def f199_77 (n : Nat) (s : zσ) : Option zσ :=
    yb0 (f172 n s) fun u1 =>
    some u1
def f199_51 (n : Nat) : Nat → Int32 → Nat → Int32 → Int32 → Int32 → zσ → Option zσ
  | 0, _, _, _, _, _, _ => none
  | j + 1, x1, x2, x3, x4, x5, s =>
    if x5 = (0 : Int32) then
    yb0 (f179 n (41 : Int32) s) fun u1 =>
    if zin? x1 200 = true then
    zlet (sI u1 (x2 + 20) (nx x1) x4) fun u2 =>
    yb1 (f167 n u2) fun v4 u3 =>
    if v4 = (0 : Int32) then
    some u3
    else if zin? x3 1400 = true then
    zlet (sI u3 (x2 + 35) (nx x3) x4) fun u5 =>
    some u5
    else none
    else none
    else if x4 = (3 : Int32) then
    if (s.1 1132 3) = (4 : Int32) then
    f199_77 n s
    else yb1 (f200 n s) fun v14 u13 =>
    if v14 = (0 : Int32) then
    f199_77 n u13
    else yb0 (f173 n (3 : Int32) (u13.1 1132 4) u13) fun u15 =>
    some u15
    else yb1 (f190 n s) fun v7 u6 =>
    if zin? (((4 : Int32) * x1) + x4) 800 = true then
    zlet (sI u6 (x2 + 22) (nx (((4 : Int32) * x1) + x4)) v7) fun u8 =>
    yb1 (f167 n u8) fun v10 u9 =>
    if v10 = (0 : Int32) then
    f199_132 n (f199_51 n j) x1 x2 x3 (x4 + (1 : Int32)) u9
    else yb1 (f177 n (44 : Int32) u9) fun v12 u11 =>
    if v12 = (0 : Int32) then
    f199_132 n (f199_51 n j) x1 x2 x3 (x4 + (1 : Int32)) u11
    else f199_133 n (f199_51 n j) x1 x2 x3 (x4 + (1 : Int32)) (1 : Int32) u11
    else none
def f199_49 (n : Nat) (x1 : Int32) (x2 : Nat) (x3 : Int32) (x4 : Int32) (y0 : Int32) (s : zσ) : Option zσ :=
    f199_51 n n x1 x2 x3 x4 y0 s
def f199_48 (n : Nat) (x1 : Int32) (x2 : Nat) (x3 : Int32) (x4 : Int32) (s : zσ) : Option zσ :=
    f199_49 n x1 x2 x3 x4 (0 : Int32) s
def f199 (n : Nat) (x1 : Int32) (s : zσ) : Option zσ :=
    zrd 12 (s.2.2 1132 12) fun a1 =>
    yb1 (f189 n (7 : Int32) s) fun v3 u2 =>
    if zin? x1 200 = true then
    zlet (sI u2 (a1 + 18) (nx x1) v3) fun u4 =>
    yb0 (f179 n (40 : Int32) u4) fun u5 =>
    yb1 (f167 n u5) fun v7 u6 =>
    if v7 = (0 : Int32) then
    f199_48 n x1 a1 v3 (0 : Int32) u6
    else yb1 (f177 n (41 : Int32) u6) fun v9 u8 =>
    if v9 = (0 : Int32) then
    f199_49 n x1 a1 v3 (0 : Int32) (1 : Int32) u8
    else f199_48 n x1 a1 v3 (0 : Int32) u8
    else none
def f198_162 (n : Nat) (x1 : Int32) (x2 : Nat) (s : zσ) : Option zσ :=
    yb1 (f190 n s) fun v2 u1 =>
    if zin? ((4 : Int32) * x1) 800 = true then
    zlet (sI u1 (x2 + 22) (nx ((4 : Int32) * x1)) v2) fun u3 =>
    some u3
    else none
def f198_120 (n : Nat) (x1 : Int32) (x2 : Nat) (s : zσ) : Option zσ :=
    yb0 (f179 n (61 : Int32) s) fun u1 =>
    yb1 (f167 n u1) fun v3 u2 =>
    if v3 = (0 : Int32) then
    f198_162 n x1 x2 u2
    else yb1 (f170 n 19 u2) fun v5 u4 =>
    if v5 = (0 : Int32) then
    f198_162 n x1 x2 u4
    else if zin? x1 200 = true then
    zlet (sI u4 (x2 + 15) (nx x1) (3 : Int32)) fun u6 =>
    yb0 (f164 n u6) fun u7 =>
    yb0 (f199 n x1 u7) fun u8 =>
    some u8
    else none
def f198_99 (n : Nat) (x1 : Int32) (x2 : Nat) (s : zσ) : Option zσ :=
    yb0 (f179 n (61 : Int32) s) fun u1 =>
    yb1 (f190 n u1) fun v3 u2 =>
    if zin? (((4 : Int32) * x1) + (1 : Int32)) 800 = true then
    zlet (sI u2 (x2 + 22) (nx (((4 : Int32) * x1) + (1 : Int32))) v3) fun u4 =>
    some u4
    else none
def f198 (n : Nat) (x1 : Int32) (s : zσ) : Option zσ :=
    zrd 12 (s.2.2 1132 12) fun a1 =>
    if zin? x1 200 = true then
    zlet (sI s (a1 + 15) (nx x1) (1 : Int32)) fun u2 =>
    yb1 (f189 n (10 : Int32) u2) fun v4 u3 =>
    if zin? x1 200 = true then
    zlet (sI u3 (a1 + 17) (nx x1) v4) fun u5 =>
    yb1 (f167 n u5) fun v7 u6 =>
    if v7 = (0 : Int32) then
    f198_120 n x1 a1 u6
    else yb1 (f177 n (91 : Int32) u6) fun v9 u8 =>
    if v9 = (0 : Int32) then
    f198_120 n x1 a1 u8
    else if zin? v4 1400 = true then
    zlet (sI u8 (a1 + 31) (nx v4) (1 : Int32)) fun u10 =>
    if zin? x1 200 = true then
    zlet (sI u10 (a1 + 15) (nx x1) (2 : Int32)) fun u11 =>
    yb0 (f182 n u11) fun u12 =>
    yb1 (f167 n u12) fun v14 u13 =>
    if v14 = (0 : Int32) then
    f198_99 n x1 a1 u13
    else yb0 (f164 n u13) fun u15 =>
    yb1 (f190 n u15) fun v17 u16 =>
    if zin? ((4 : Int32) * x1) 800 = true then
    zlet (sI u16 (a1 + 22) (nx ((4 : Int32) * x1)) v17) fun u18 =>
    yb0 (f179 n (93 : Int32) u18) fun u19 =>
    zlet (sI u19 1132 14 ((u19.1 1132 14) - (1 : Int32))) fun u20 =>
    f198_99 n x1 a1 u20
    else none
    else none
    else none
    else none
    else none
def f202_83 (n : Nat) (r10 : Int32 → Nat → Int32 → Int32 → zσ → Option zσ) (x1 : Int32) (x2 : Nat) (x3 : Int32) (y0 : Int32) (s : zσ) : Option zσ :=
    if y0 = (0 : Int32) then
    r10 x1 x2 x3 y0 s
    else yb0 (f164 n s) fun u1 =>
    r10 x1 x2 x3 y0 u1
def f202_82 (n : Nat) (r10 : Int32 → Nat → Int32 → Int32 → zσ → Option zσ) (x1 : Int32) (x2 : Nat) (x3 : Int32) (s : zσ) : Option zσ :=
    f202_83 n r10 x1 x2 x3 (0 : Int32) s
def f202_10 (n : Nat) : Nat → Int32 → Nat → Int32 → Int32 → zσ → Option zσ
  | 0, _, _, _, _, _ => none
  | j + 1, x1, x2, x3, x4, s =>
    if x4 = (0 : Int32) then
    if zin? x1 200 = true then
    zlet (sI s (x2 + 20) (nx x1) x3) fun u1 =>
    some u1
    else none
    else if x3 = (4 : Int32) then
    yb1 (f175 n s) fun v10 u9 =>
    if v10 = (0 : Int32) then
    yb0 (f172 n u9) fun u11 =>
    some u11
    else yb0 (f173 n (3 : Int32) (u9.1 1132 4) u9) fun u12 =>
    some u12
    else yb1 (f189 n (2 : Int32) s) fun v3 u2 =>
    if zin? (((4 : Int32) * x1) + x3) 800 = true then
    zlet (sI u2 (x2 + 21) (nx (((4 : Int32) * x1) + x3)) v3) fun u4 =>
    yb1 (f167 n u4) fun v6 u5 =>
    if v6 = (0 : Int32) then
    f202_82 n (f202_10 n j) x1 x2 (x3 + (1 : Int32)) u5
    else yb1 (f177 n (44 : Int32) u5) fun v8 u7 =>
    if v8 = (0 : Int32) then
    f202_82 n (f202_10 n j) x1 x2 (x3 + (1 : Int32)) u7
    else f202_83 n (f202_10 n j) x1 x2 (x3 + (1 : Int32)) (1 : Int32) u7
    else none
def f202 (n : Nat) (x1 : Int32) (s : zσ) : Option zσ :=
    zrd 12 (s.2.2 1132 12) fun a1 =>
    f202_10 n n x1 a1 (0 : Int32) (1 : Int32) s
def f201_422 (n : Nat) (g : zσ → Option (Int32 × zσ)) (x1 : Int32) (x3 : Nat) (s : zσ) : Option zσ :=
    yb1 (f189 n (4 : Int32) s) fun v2 u1 =>
    if zin? x1 200 = true then
    zlet (sI u1 (x3 + 17) (nx x1) v2) fun u3 =>
    some u3
    else none
def f201_328 (n : Nat) (g : zσ → Option (Int32 × zσ)) (x1 : Int32) (x3 : Nat) (s : zσ) : Option zσ :=
    yb1 (f189 n (8 : Int32) s) fun v2 u1 =>
    if zin? x1 200 = true then
    zlet (sI u1 (x3 + 17) (nx x1) v2) fun u3 =>
    some u3
    else none
def f201_324 (n : Nat) (g : zσ → Option (Int32 × zσ)) (y0 : Int32) (y1 : Int32) (y2 : Nat) (s : zσ) : Option zσ :=
    if zin? y1 200 = true then
    zlet (sI s y2 (nx y1) y0) fun u1 =>
    some u1
    else none
def f201_323 (n : Nat) (g : zσ → Option (Int32 × zσ)) (y0 : Int32) (y1 : Nat) (s : zσ) : Option zσ :=
    f201_324 n g (-1 : Int32) y0 y1 s
def f201_281 (n : Nat) (g : zσ → Option (Int32 × zσ)) (x1 : Int32) (x3 : Nat) (s : zσ) : Option zσ :=
    yb1 (f189 n (3 : Int32) s) fun v2 u1 =>
    if zin? x1 200 = true then
    zlet (sI u1 (x3 + 17) (nx x1) v2) fun u3 =>
    some u3
    else none
def f201_273 (n : Nat) (g : zσ → Option (Int32 × zσ)) (x1 : Int32) (s : zσ) : Option zσ :=
    yb0 (f202 n x1 s) fun u1 =>
    some u1
def f201_147 (n : Nat) (g : zσ → Option (Int32 × zσ)) (x1 : Int32) (x2 : Int32) (x3 : Nat) (s : zσ) : Option zσ :=
    yb1 (f190 n s) fun v2 u1 =>
    if zin? ((4 : Int32) * x1) 800 = true then
    zlet (sI u1 (x3 + 22) (nx ((4 : Int32) * x1)) v2) fun u3 =>
    yb1 (g u3) fun v5 u4 =>
    if zin? x1 200 = true then
    zlet (sI u4 (x3 + 23) (nx x1) v5) fun u6 =>
    yb1 (f167 n u6) fun v8 u7 =>
    if v8 = (0 : Int32) then
    some u7
    else if x2 = (5 : Int32) then
    yb1 (f170 n 49 u7) fun v10 u9 =>
    if v10 = (0 : Int32) then
    some u9
    else yb0 (f164 n u9) fun u11 =>
    yb1 (g u11) fun v13 u12 =>
    if zin? x1 200 = true then
    zlet (sI u12 (x3 + 24) (nx x1) v13) fun u14 =>
    some u14
    else none
    else some u7
    else none
    else none
def f201_132 (n : Nat) (g : zσ → Option (Int32 × zσ)) (x1 : Int32) (x3 : Nat) (s : zσ) : Option zσ :=
    yb1 (f190 n s) fun v2 u1 =>
    if zin? ((4 : Int32) * x1) 800 = true then
    zlet (sI u1 (x3 + 22) (nx ((4 : Int32) * x1)) v2) fun u3 =>
    some u3
    else none
def f201 (n : Nat) (g : zσ → Option (Int32 × zσ)) (x1 : Int32) (x2 : Int32) (s : zσ) : Option zσ :=
    zrd 12 (s.2.2 1132 12) fun a1 =>
    if x2 = (3 : Int32) then
    yb0 (f199 n x1 s) fun u2 =>
    some u2
    else if x2 = (4 : Int32) then
    f201_132 n g x1 a1 s
    else if x2 = (5 : Int32) then
    f201_147 n g x1 x2 a1 s
    else if x2 = (6 : Int32) then
    f201_147 n g x1 x2 a1 s
    else if x2 = (7 : Int32) then
    yb1 (f189 n (1 : Int32) s) fun v4 u3 =>
    if zin? x1 200 = true then
    zlet (sI u3 (a1 + 17) (nx x1) v4) fun u5 =>
    yb1 (f190 n u5) fun v7 u6 =>
    if zin? ((4 : Int32) * x1) 800 = true then
    zlet (sI u6 (a1 + 22) (nx ((4 : Int32) * x1)) v7) fun u8 =>
    some u8
    else none
    else none
    else if x2 = (8 : Int32) then
    yb1 (f189 n (1 : Int32) s) fun v10 u9 =>
    if zin? x1 200 = true then
    zlet (sI u9 (a1 + 17) (nx x1) v10) fun u11 =>
    yb1 (f189 n (1 : Int32) u11) fun v13 u12 =>
    if zin? x1 200 = true then
    zlet (sI u12 (a1 + 18) (nx x1) v13) fun u14 =>
    some u14
    else none
    else none
    else if x2 = (9 : Int32) then
    yb1 (f189 n (1 : Int32) s) fun v16 u15 =>
    if zin? x1 200 = true then
    zlet (sI u15 (a1 + 17) (nx x1) v16) fun u17 =>
    some u17
    else none
    else if x2 = (10 : Int32) then
    f201_273 n g x1 s
    else if x2 = (11 : Int32) then
    f201_273 n g x1 s
    else if x2 = (12 : Int32) then
    f201_281 n g x1 a1 s
    else if x2 = (13 : Int32) then
    f201_281 n g x1 a1 s
    else if x2 = (14 : Int32) then
    f201_281 n g x1 a1 s
    else if x2 = (15 : Int32) then
    f201_281 n g x1 a1 s
    else if x2 = (16 : Int32) then
    f201_328 n g x1 a1 s
    else if x2 = (17 : Int32) then
    f201_328 n g x1 a1 s
    else if x2 = (18 : Int32) then
    yb1 (f167 n s) fun v19 u18 =>
    if v19 = (0 : Int32) then
    f201_323 n g x1 (a1 + 17) u18
    else yb1 (f175 n u18) fun v21 u20 =>
    if v21 = (0 : Int32) then
    f201_323 n g x1 (a1 + 17) u20
    else yb1 (f189 n (8 : Int32) u20) fun v23 u22 =>
    f201_324 n g v23 x1 (a1 + 17) u22
    else if x2 = (19 : Int32) then
    f201_328 n g x1 a1 s
    else if x2 = (20 : Int32) then
    yb1 (f189 n (8 : Int32) s) fun v25 u24 =>
    if zin? x1 200 = true then
    zlet (sI u24 (a1 + 17) (nx x1) v25) fun u26 =>
    yb1 (f190 n u26) fun v28 u27 =>
    if zin? ((4 : Int32) * x1) 800 = true then
    zlet (sI u27 (a1 + 22) (nx ((4 : Int32) * x1)) v28) fun u29 =>
    some u29
    else none
    else none
    else if x2 = (21 : Int32) then
    f201_328 n g x1 a1 s
    else if x2 = (22 : Int32) then
    f201_132 n g x1 a1 s
    else if x2 = (23 : Int32) then
    yb1 (f189 n (5 : Int32) s) fun v31 u30 =>
    if zin? x1 200 = true then
    zlet (sI u30 (a1 + 17) (nx x1) v31) fun u32 =>
    yb1 (f189 n (0 : Int32) u32) fun v34 u33 =>
    if zin? x1 200 = true then
    zlet (sI u33 (a1 + 18) (nx x1) v34) fun u35 =>
    some u35
    else none
    else none
    else if x2 = (24 : Int32) then
    yb1 (f189 n (6 : Int32) s) fun v37 u36 =>
    if zin? x1 200 = true then
    zlet (sI u36 (a1 + 17) (nx x1) v37) fun u38 =>
    yb1 (f190 n u38) fun v40 u39 =>
    if zin? ((4 : Int32) * x1) 800 = true then
    zlet (sI u39 (a1 + 22) (nx ((4 : Int32) * x1)) v40) fun u41 =>
    some u41
    else none
    else none
    else if x2 = (28 : Int32) then
    f201_132 n g x1 a1 s
    else f201_422 n g x1 a1 s
def f184_215 (n : Nat) (g : zσ → Option (Int32 × zσ)) (x3 : Int32) (x5 : Int32) (s : zσ) : Option (Int32 × zσ) :=
    if x3 = (5 : Int32) then
    some (x5, s)
    else if x3 = (6 : Int32) then
    some (x5, s)
    else yb0 (f179 n (59 : Int32) s) fun u1 =>
    some (x5, u1)
def f184_63 (n : Nat) (g : zσ → Option (Int32 × zσ)) (x1 : Nat) (x2 : Int32) (x3 : Int32) (y0 : Int32) (s : zσ) : Option (Int32 × zσ) :=
    if y0 = (0 : Int32) then
    yb0 (f172 n s) fun u16 =>
    some ((0 : Int32), u16)
    else if (s.1 x1 16) = (200 : Int32) then
    yb0 (f173 n (3 : Int32) (s.1 1132 4) s) fun u15 =>
    some ((0 : Int32), u15)
    else zlet ((s.1 x1 16)) fun v1 =>
    zlet (sI s x1 16 ((s.1 x1 16) + (1 : Int32))) fun u2 =>
    if zin? v1 200 = true then
    zlet (sI u2 (x1 + 16) (nx v1) (-1 : Int32)) fun u3 =>
    if zin? v1 200 = true then
    zlet (sI u3 (x1 + 17) (nx v1) (-1 : Int32)) fun u4 =>
    if zin? v1 200 = true then
    zlet (sI u4 (x1 + 18) (nx v1) (-1 : Int32)) fun u5 =>
    if zin? v1 200 = true then
    zlet (sI u5 (x1 + 19) (nx v1) (0 : Int32)) fun u6 =>
    if zin? v1 200 = true then
    zlet (sI u6 (x1 + 20) (nx v1) (0 : Int32)) fun u7 =>
    if zin? v1 200 = true then
    zlet (sI u7 (x1 + 23) (nx v1) (-1 : Int32)) fun u8 =>
    if zin? v1 200 = true then
    zlet (sI u8 (x1 + 24) (nx v1) (-1 : Int32)) fun u9 =>
    if zin? v1 200 = true then
    zlet (sI u9 (x1 + 15) (nx v1) x3) fun u10 =>
    if x2 = (0 : Int32) then
    if x3 = (0 : Int32) then
    yb0 (f198 n v1 u10) fun u13 =>
    f184_215 n g x3 v1 u13
    else yb0 (f164 n u10) fun u11 =>
    yb0 (f201 n g v1 x3 u11) fun u12 =>
    f184_215 n g x3 v1 u12
    else yb0 (f188 n v1 x2 u10) fun u14 =>
    f184_215 n g x3 v1 u14
    else none
    else none
    else none
    else none
    else none
    else none
    else none
    else none
def f184_62 (n : Nat) (g : zσ → Option (Int32 × zσ)) (x1 : Nat) (x2 : Int32) (x3 : Int32) (s : zσ) : Option (Int32 × zσ) :=
    f184_63 n g x1 x2 x3 (0 : Int32) s
def f184_58 (n : Nat) (g : zσ → Option (Int32 × zσ)) (x1 : Nat) (x2 : Int32) (x3 : Int32) (s : zσ) : Option (Int32 × zσ) :=
    f184_63 n g x1 x2 x3 (1 : Int32) s
def f184_29 (n : Nat) (g : zσ → Option (Int32 × zσ)) (x1 : Nat) (x2 : Int32) (y0 : Int32) (s : zσ) : Option (Int32 × zσ) :=
    if x2 = (0 : Int32) then
    yb1 (f175 n s) fun v2 u1 =>
    if v2 = (0 : Int32) then
    if y0 = (0 : Int32) then
    f184_62 n g x1 x2 y0 u1
    else if y0 = (4 : Int32) then
    if (u1.1 1132 15) = (-1 : Int32) then
    f184_62 n g x1 x2 y0 u1
    else f184_58 n g x1 x2 y0 u1
    else f184_58 n g x1 x2 y0 u1
    else f184_58 n g x1 x2 y0 u1
    else f184_58 n g x1 x2 y0 s
def f184 (n : Nat) (g : zσ → Option (Int32 × zσ)) (s : zσ) : Option (Int32 × zσ) :=
    zrd 12 (s.2.2 1132 12) fun a1 =>
    yb1 (f185 n s) fun v3 u2 =>
    if (u2.1 1132 3) = (1 : Int32) then
    yb1 (f186 n (u2.2.1 1132 6) u2) fun v5 u4 =>
    f184_29 n g a1 v3 v5 u4
    else f184_29 n g a1 v3 (0 : Int32) u2
def f181_182 (n : Nat) (g : zσ → Option (Int32 × zσ)) (x2 : Int32) (s : zσ) : Option (Int32 × zσ) :=
    yb0 (f179 n (125 : Int32) s) fun u1 =>
    zlet (sI u1 1132 14 ((u1.1 1132 14) - (1 : Int32))) fun u2 =>
    some (x2, u2)
def f181_179 (n : Nat) (g : zσ → Option (Int32 × zσ)) (r123 : Nat → Int32 → Int32 → zσ → Option (Int32 × zσ)) (x1 : Nat) (x2 : Int32) (x3 : Int32) (s : zσ) : Option (Int32 × zσ) :=
    r123 x1 x2 x3 s
def f181_176 (n : Nat) (g : zσ → Option (Int32 × zσ)) (r123 : Nat → Int32 → Int32 → zσ → Option (Int32 × zσ)) (x1 : Nat) (x2 : Int32) (x4 : Int32) (s : zσ) : Option (Int32 × zσ) :=
    f181_179 n g r123 x1 x2 x4 s
def f181_123 (n : Nat) (g : zσ → Option (Int32 × zσ)) : Nat → Nat → Int32 → Int32 → zσ → Option (Int32 × zσ)
  | 0, _, _, _, _ => none
  | j + 1, x1, x2, x3, s =>
    yb1 (f167 n s) fun v2 u1 =>
    if v2 = (0 : Int32) then
    f181_182 n g x2 u1
    else yb1 (f177 n (125 : Int32) u1) fun v4 u3 =>
    if v4 = (0 : Int32) then
    yb1 (f184 n g u3) fun v6 u5 =>
    yb1 (f167 n u5) fun v8 u7 =>
    if v8 = (0 : Int32) then
    f181_179 n g (f181_123 n g j) x1 x2 x3 u7
    else if x3 = (-1 : Int32) then
    if zin? x2 2000 = true then
    zlet (sI u7 (x1 + 13) (nx x2) v6) fun u10 =>
    f181_176 n g (f181_123 n g j) x1 x2 v6 u10
    else none
    else if zin? x3 200 = true then
    zlet (sI u7 (x1 + 16) (nx x3) v6) fun u9 =>
    f181_176 n g (f181_123 n g j) x1 x2 v6 u9
    else none
    else f181_182 n g x2 u3
def f181_121 (n : Nat) (g : zσ → Option (Int32 × zσ)) (x1 : Nat) (x2 : Int32) (s : zσ) : Option (Int32 × zσ) :=
    f181_123 n g n x1 x2 (-1 : Int32) s
def f181_92 (n : Nat) (g : zσ → Option (Int32 × zσ)) : Nat → Nat → Int32 → zσ → Option (Int32 × zσ)
  | 0, _, _, _ => none
  | j + 1, x1, x2, s =>
    yb1 (f167 n s) fun v2 u1 =>
    if v2 = (0 : Int32) then
    f181_121 n g x1 x2 u1
    else yb1 (f170 n 13 u1) fun v4 u3 =>
    if v4 = (0 : Int32) then
    f181_121 n g x1 x2 u3
    else yb0 (f164 n u3) fun u5 =>
    yb0 (f183 n g x2 u5) fun u6 =>
    f181_92 n g j x1 x2 u6
def f181_57 (n : Nat) (g : zσ → Option (Int32 × zσ)) : Nat → Nat → Int32 → Int32 → zσ → Option (Int32 × zσ)
  | 0, _, _, _, _ => none
  | j + 1, x1, x2, x3, s =>
    if x3 < (20 : Int32) then
    if zin? (((20 : Int32) * x2) + x3) 40000 = true then
    zlet (sI s (x1 + 14) (nx (((20 : Int32) * x2) + x3)) (-1 : Int32)) fun u4 =>
    f181_57 n g j x1 x2 (x3 + (1 : Int32)) u4
    else none
    else yb1 (f167 n s) fun v2 u1 =>
    if v2 = (0 : Int32) then
    f181_92 n g n x1 x2 u1
    else yb0 (f164 n u1) fun u3 =>
    f181_92 n g n x1 x2 u3
def f181b (n : Nat) (g : zσ → Option (Int32 × zσ)) (s : zσ) : Option (Int32 × zσ) :=
    yb1 (f167 n s) fun v2 u1 =>
    if v2 = (0 : Int32) then
    some ((0 : Int32), u1)
    else yb1 (f177 n (123 : Int32) u1) fun v4 u3 =>
    if v4 = (0 : Int32) then
    yb0 (f172 n u3) fun u10 =>
    some ((0 : Int32), u10)
    else yb0 (f182 n u3) fun u5 =>
    zrd 12 (u5.2.2 1132 12) fun a6 =>
    zlet ((u5.1 a6 13)) fun v7 =>
    zlet (sI u5 a6 13 ((u5.1 a6 13) + (1 : Int32))) fun u8 =>
    if zin? v7 2000 = true then
    zlet (sI u8 (a6 + 13) (nx v7) (-1 : Int32)) fun u9 =>
    f181_57 n g n a6 v7 (0 : Int32) u9
    else none
def f181 (n : Nat) : Nat → zσ → Option (Int32 × zσ)
  | 0, _ => none
  | k + 1, s => f181b n (f181 n k) s
def f168_250 (n : Nat) (x1 : Nat) (x3 : Int32) (s : zσ) : Option zσ :=
    yb1 (f181 n 20 s) fun v2 u1 =>
    if zin? x3 8 = true then
    zlet (sI u1 (x1 + 7) (nx x3) v2) fun u3 =>
    some u3
    else none
def f168_236 (n : Nat) (x1 : Nat) (x3 : Int32) (y0 : Int32) (y1 : Int32) (y2 : Nat) (s : zσ) : Option zσ :=
    if zin? y1 8 = true then
    zlet (sI s y2 (nx y1) (vp_nar .boolean y0)) fun u1 =>
    if zin? x3 8 = true then
    if (u1.1 (x1 + 9) (nx x3)) = (0 : Int32) then
    f168_250 n x1 x3 u1
    else yb0 (f164 n u1) fun u2 =>
    f168_250 n x1 x3 u2
    else none
    else none
def f168_235 (n : Nat) (x1 : Nat) (x3 : Int32) (y0 : Int32) (y1 : Nat) (s : zσ) : Option zσ :=
    f168_236 n x1 x3 (0 : Int32) y0 y1 s
def f168_108 (n : Nat) (s : zσ) : Option zσ :=
    yb0 (f179 n (59 : Int32) s) fun u1 =>
    some u1
def f168_107 (n : Nat) (y0 : Int32) (y1 : Int32) (y2 : Nat) (s : zσ) : Option zσ :=
    if zin? y1 8 = true then
    zlet (sI s y2 (nx y1) y0) fun u1 =>
    f168_108 n u1
    else none
def f168_79 (n : Nat) (x1 : Nat) (x3 : Int32) (x4 : Int32) (s : zσ) : Option zσ :=
    yb1 (f178 n (0 : Int32) (2147483647 : Int32) s) fun v2 u1 =>
    if x4 = (0 : Int32) then
    f168_107 n v2 x3 (x1 + 5) u1
    else f168_107 n (-v2) x3 (x1 + 5) u1
def f168 (n : Nat) (s : zσ) : Option zσ :=
    zrd 12 (s.2.2 1132 12) fun a1 =>
    yb1 (f169 n s) fun v3 u2 =>
    if v3 = (-1 : Int32) then
    yb0 (f172 n u2) fun u36 =>
    some u36
    else yb0 (f164 n u2) fun u4 =>
    yb1 (f174 n v3 u4) fun v6 u5 =>
    yb1 (f167 n u5) fun v8 u7 =>
    if v8 = (0 : Int32) then
    some u7
    else if v3 = (0 : Int32) then
    if zin? v6 8 = true then
    zlet (sI u7 (a1 + 5) (nx v6) (0 : Int32)) fun u29 =>
    yb1 (f177 n (61 : Int32) u29) fun v31 u30 =>
    if v31 = (0 : Int32) then
    f168_108 n u30
    else yb0 (f164 n u30) fun u32 =>
    yb1 (f177 n (45 : Int32) u32) fun v34 u33 =>
    if v34 = (0 : Int32) then
    f168_79 n a1 v6 v34 u33
    else yb0 (f164 n u33) fun u35 =>
    f168_79 n a1 v6 v34 u35
    else none
    else if v3 = (2 : Int32) then
    yb1 (f178 n (0 : Int32) (9 : Int32) u7) fun v26 u25 =>
    if zin? v6 4 = true then
    zlet (sI u25 (a1 + 6) (nx v6) v26) fun u27 =>
    yb0 (f179 n (59 : Int32) u27) fun u28 =>
    some u28
    else none
    else if v3 = (7 : Int32) then
    yb0 (f179 n (40 : Int32) u7) fun u17 =>
    yb0 (f180 n v6 u17) fun u18 =>
    yb0 (f179 n (41 : Int32) u18) fun u19 =>
    zlet (sI u19 1132 15 v6) fun u20 =>
    yb1 (f181 n 20 u20) fun v22 u21 =>
    if zin? v6 6 = true then
    zlet (sI u21 (a1 + 10) (nx v6) v22) fun u23 =>
    zlet (sI u23 1132 15 (-1 : Int32)) fun u24 =>
    some u24
    else none
    else if v3 = (8 : Int32) then
    yb1 (f178 n (1 : Int32) (9 : Int32) u7) fun v11 u10 =>
    if zin? v6 8 = true then
    zlet (sI u10 (a1 + 8) (nx v6) v11) fun u12 =>
    yb1 (f167 n u12) fun v14 u13 =>
    if v14 = (0 : Int32) then
    f168_235 n a1 v6 v6 (a1 + 9) u13
    else yb1 (f170 n 50 u13) fun v16 u15 =>
    if v16 = (0 : Int32) then
    f168_235 n a1 v6 v6 (a1 + 9) u15
    else f168_236 n a1 v6 (1 : Int32) v6 (a1 + 9) u15
    else none
    else yb0 (f179 n (59 : Int32) u7) fun u9 =>
    some u9
def f203_286 (n : Nat) (r229 : Nat → Int32 → zσ → Option zσ) (x1 : Nat) (x2 : Int32) (s : zσ) : Option zσ :=
    r229 x1 (x2 + (1 : Int32)) s
def f203_229 (n : Nat) : Nat → Nat → Int32 → zσ → Option zσ
  | 0, _, _, _ => none
  | j + 1, x1, x2, s =>
    if x2 < (s.1 x1 34) then
    yb1 (f167 n s) fun v2 u1 =>
    if v2 = (0 : Int32) then
    some u1
    else if zin? x2 1400 = true then
    if (u1.1 (x1 + 35) (nx x2)) = (-1 : Int32) then
    f203_286 n (f203_229 n j) x1 x2 u1
    else if zin? x2 1400 = true then
    if zin? x2 1400 = true then
    if zin? (u1.1 (x1 + 33) (nx x2)) 6 = true then
    if (u1.1 (x1 + 35) (nx x2)) = (u1.1 (x1 + 11) (nx (u1.1 (x1 + 33) (nx x2)))) then
    f203_286 n (f203_229 n j) x1 x2 u1
    else if zin? x2 1400 = true then
    yb0 (f173 n (7 : Int32) (u1.1 (x1 + 30) (nx x2)) u1) fun u3 =>
    f203_286 n (f203_229 n j) x1 x2 u3
    else none
    else none
    else none
    else none
    else none
    else some s
def f203_227 (n : Nat) (x1 : Nat) (s : zσ) : Option zσ :=
    f203_229 n n x1 (0 : Int32) s
def f203_206 (n : Nat) (r7 : Nat → Int32 → zσ → Option zσ) (x1 : Nat) (x2 : Int32) (x3 : Int32) (x4 : Int32) (s : zσ) : Option zσ :=
    if zin? x2 1400 = true then
    zlet (sI s (x1 + 34) (nx x2) x3) fun u1 =>
    if zin? x2 1400 = true then
    zlet (sI u1 (x1 + 33) (nx x2) x4) fun u2 =>
    r7 x1 (x2 + (1 : Int32)) u2
    else none
    else none
def f203_187 (n : Nat) (r7 : Nat → Int32 → zσ → Option zσ) (x1 : Nat) (x2 : Int32) (x3 : Int32) (x4 : Int32) (y0 : Int32) (s : zσ) : Option zσ :=
    if y0 = (0 : Int32) then
    if zin? x2 1400 = true then
    yb0 (f173 n (6 : Int32) (s.1 (x1 + 30) (nx x2)) s) fun u1 =>
    f203_206 n r7 x1 x2 x3 x4 u1
    else none
    else f203_206 n r7 x1 x2 x3 x4 s
def f203_164 (n : Nat) (r7 : Nat → Int32 → zσ → Option zσ) (x1 : Nat) (x2 : Int32) (x3 : Int32) (x4 : Int32) (s : zσ) : Option zσ :=
    f203_187 n r7 x1 x2 x3 x4 (1 : Int32) s
def f203_143 (n : Nat) (r7 : Nat → Int32 → zσ → Option zσ) (x1 : Nat) (x2 : Int32) (x3 : Int32) (x4 : Int32) (s : zσ) : Option zσ :=
    if zin? x2 1400 = true then
    if (s.1 (x1 + 31) (nx x2)) = (10 : Int32) then
    if x3 = (0 : Int32) then
    f203_164 n r7 x1 x2 x3 x4 s
    else if x3 = (9 : Int32) then
    f203_164 n r7 x1 x2 x3 x4 s
    else f203_187 n r7 x1 x2 x3 x4 (0 : Int32) s
    else if zin? x2 1400 = true then
    if x3 = (s.1 (x1 + 31) (nx x2)) then
    f203_187 n r7 x1 x2 x3 x4 (1 : Int32) s
    else f203_187 n r7 x1 x2 x3 x4 (0 : Int32) s
    else none
    else none
def f203_137 (n : Nat) (r7 : Nat → Int32 → zσ → Option zσ) (r90 : Nat → Int32 → Int32 → Int32 → Int32 → Int32 → zσ → Option zσ) (x1 : Nat) (x2 : Int32) (x3 : Int32) (x4 : Int32) (x5 : Int32) (x6 : Int32) (s : zσ) : Option zσ :=
    r90 x1 x2 x3 x4 x5 (x6 + (1 : Int32)) s
def f203_90 (n : Nat) (r7 : Nat → Int32 → zσ → Option zσ) : Nat → Nat → Int32 → Int32 → Int32 → Int32 → Int32 → zσ → Option zσ
  | 0, _, _, _, _, _, _, _ => none
  | j + 1, x1, x2, x3, x4, x5, x6, s =>
    if x5 = (-1 : Int32) then
    f203_143 n r7 x1 x2 x3 x4 s
    else if zin? x5 6 = true then
    if x6 < (s.1 (x1 + 11) (nx x5)) then
    if zin? (((3 : Int32) * x5) + x6) 18 = true then
    if zin? x2 1400 = true then
    if (s.2.1 (x1 + 12) (nx (((3 : Int32) * x5) + x6))) = (s.2.1 (x1 + 29) (nx x2)) then
    f203_137 n r7 (f203_90 n r7 j) x1 x2 (9 : Int32) x6 x5 x6 s
    else f203_137 n r7 (f203_90 n r7 j) x1 x2 x3 x4 x5 x6 s
    else none
    else none
    else f203_143 n r7 x1 x2 x3 x4 s
    else none
def f203_73 (n : Nat) (r7 : Nat → Int32 → zσ → Option zσ) (r30 : Nat → Int32 → Int32 → Int32 → Int32 → zσ → Option zσ) (x1 : Nat) (x2 : Int32) (x3 : Int32) (x4 : Int32) (x5 : Int32) (s : zσ) : Option zσ :=
    r30 x1 x2 x3 x4 (x5 + (1 : Int32)) s
def f203_30 (n : Nat) (r7 : Nat → Int32 → zσ → Option zσ) : Nat → Nat → Int32 → Int32 → Int32 → Int32 → zσ → Option zσ
  | 0, _, _, _, _, _, _ => none
  | j + 1, x1, x2, x3, x4, x5, s =>
    if x5 < (s.1 x1 0) then
    if zin? x5 60 = true then
    if zin? x2 1400 = true then
    if (s.2.1 (x1 + 1) (nx x5)) = (s.2.1 (x1 + 29) (nx x2)) then
    if zin? x5 60 = true then
    zlet ((s.1 (x1 + 2) (nx x5))) fun v2 =>
    if zin? x5 60 = true then
    zlet ((s.1 (x1 + 3) (nx x5))) fun v3 =>
    f203_73 n r7 (f203_30 n r7 j) x1 x2 v2 v3 x5 s
    else none
    else none
    else f203_73 n r7 (f203_30 n r7 j) x1 x2 x3 x4 x5 s
    else none
    else none
    else if zin? x2 1400 = true then
    zlet ((s.1 (x1 + 32) (nx x2))) fun v1 =>
    f203_90 n r7 n x1 x2 x3 x4 v1 (0 : Int32) s
    else none
def f203_7 (n : Nat) : Nat → Nat → Int32 → zσ → Option zσ
  | 0, _, _, _ => none
  | j + 1, x1, x2, s =>
    if x2 < (s.1 x1 34) then
    yb1 (f167 n s) fun v2 u1 =>
    if v2 = (0 : Int32) then
    f203_227 n x1 u1
    else f203_30 n (f203_7 n j) n x1 x2 (-1 : Int32) (-1 : Int32) (0 : Int32) u1
    else f203_227 n x1 s
def f203 (n : Nat) (s : zσ) : Option zσ :=
    zrd 12 (s.2.2 1132 12) fun a1 =>
    f203_7 n n a1 (0 : Int32) s
def f163_117 (n : Nat) (x1 : Nat) (s : zσ) : Option (Int32 × zσ) :=
    zlet (sI s 1132 1 (0 : Int32)) fun u1 =>
    if (u1.1 1132 9) = (0 : Int32) then
    zlet (sI u1 1132 2 (-1 : Int32)) fun u2 =>
    zrd 12 (u2.2.2 1132 11) fun a3 =>
    zlet (sR u2 1132 12 (some a3)) fun u4 =>
    zlet (sR u4 1132 11 (some x1)) fun u5 =>
    zlet (sI u5 1132 13 (1 : Int32)) fun u6 =>
    zlet (sI u6 1132 17 (0 : Int32)) fun u7 =>
    if zin? (8 : Int32) 9 = true then
    some ((u7.1 (x1 + 4) (nx (8 : Int32))), u7)
    else none
    else zlet (sI u1 1132 2 (u1.1 1132 10)) fun u8 =>
    some (((-10 : Int32) - (u8.1 1132 9)), u8)
def f163_106 (n : Nat) (x1 : Nat) (s : zσ) : Option (Int32 × zσ) :=
    yb1 (f167 n s) fun v2 u1 =>
    if v2 = (0 : Int32) then
    f163_117 n x1 u1
    else yb0 (f203 n u1) fun u3 =>
    f163_117 n x1 u3
def f163_85 (n : Nat) : Nat → Nat → zσ → Option (Int32 × zσ)
  | 0, _, _ => none
  | j + 1, x1, s =>
    yb1 (f167 n s) fun v2 u1 =>
    if v2 = (0 : Int32) then
    f163_106 n x1 u1
    else if (u1.1 1132 3) = (0 : Int32) then
    f163_106 n x1 u1
    else yb0 (f168 n u1) fun u3 =>
    f163_85 n j x1 u3
def f163_42 (n : Nat) : Nat → Nat → Int32 → zσ → Option (Int32 × zσ)
  | 0, _, _, _ => none
  | j + 1, x1, x2, s =>
    if x2 < (9 : Int32) then
    if zin? x2 9 = true then
    zlet (sI s (x1 + 4) (nx x2) (0 : Int32)) fun u6 =>
    f163_42 n j x1 (x2 + (1 : Int32)) u6
    else none
    else zlet (sI s 1132 9 (0 : Int32)) fun u1 =>
    zlet (sI u1 1132 14 (0 : Int32)) fun u2 =>
    zlet (sI u2 1132 15 (-1 : Int32)) fun u3 =>
    zlet (sI u3 1132 5 (0 : Int32)) fun u4 =>
    yb0 (f164 n u4) fun u5 =>
    f163_85 n n x1 u5
def f163 (n : Nat) (s : zσ) : Option (Int32 × zσ) :=
    zrd 12 (s.2.2 1132 12) fun a1 =>
    zlet (sI s a1 0 (0 : Int32)) fun u2 =>
    zlet (sI u2 a1 13 (0 : Int32)) fun u3 =>
    zlet (sI u3 a1 16 (0 : Int32)) fun u4 =>
    zlet (sI u4 a1 27 (0 : Int32)) fun u5 =>
    zlet (sI u5 a1 28 (0 : Int32)) fun u6 =>
    zlet (sI u6 a1 31 (0 : Int32)) fun u7 =>
    zlet (sI u7 a1 34 (0 : Int32)) fun u8 =>
    f163_42 n n a1 (0 : Int32) u8
def f204 (n : Nat) (s : zσ) : Option (Int32 × zσ) :=
    some ((s.1 1132 2), s)
def f205 (n : Nat) (x1 : Int32) (s : zσ) : Option (Int32 × zσ) :=
    if x1 < (0 : Int32) then
    some ((-2 : Int32), s)
    else if (10 : Int32) < x1 then
    some ((-2 : Int32), s)
    else if (s.1 1132 13) = (0 : Int32) then
    some ((0 : Int32), s)
    else if x1 = (9 : Int32) then
    zrd 12 (s.2.2 1132 11) fun a3 =>
    some ((s.1 a3 16), s)
    else if x1 = (10 : Int32) then
    zrd 12 (s.2.2 1132 11) fun a2 =>
    some ((s.1 a2 27), s)
    else zrd 12 (s.2.2 1132 11) fun a1 =>
    if zin? x1 9 = true then
    some ((s.1 (a1 + 4) (nx x1)), s)
    else none
def f206_62 (n : Nat) (r3 : Int32 → Int64 → Int32 → zσ → Option (Int32 × zσ)) (x1 : Int32) (x2 : Int64) (x4 : Int32) (s : zσ) : Option (Int32 × zσ) :=
    r3 x1 x2 (x4 + (1 : Int32)) s
def f206_3 (n : Nat) : Nat → Int32 → Int64 → Int32 → zσ → Option (Int32 × zσ)
  | 0, _, _, _, _ => none
  | j + 1, x1, x2, x4, s =>
    if (s.1 1132 13) = (0 : Int32) then
    some ((-1 : Int32), s)
    else zrd 12 (s.2.2 1132 11) fun a1 =>
    if x4 < (s.1 a1 0) then
    zrd 12 (s.2.2 1132 11) fun a2 =>
    if zin? x4 60 = true then
    if (s.2.1 (a2 + 1) (nx x4)) = x2 then
    zrd 12 (s.2.2 1132 11) fun a3 =>
    if zin? x4 60 = true then
    if (s.1 (a3 + 2) (nx x4)) = x1 then
    zrd 12 (s.2.2 1132 11) fun a4 =>
    if zin? x4 60 = true then
    some ((s.1 (a4 + 3) (nx x4)), s)
    else none
    else f206_62 n (f206_3 n j) x1 x2 x4 s
    else none
    else f206_62 n (f206_3 n j) x1 x2 x4 s
    else none
    else some ((-1 : Int32), s)
def f206 (n : Nat) (x1 : Int32) (x2 : Int64) (s : zσ) : Option (Int32 × zσ) :=
    f206_3 n n x1 x2 (0 : Int32) s
def f207 (n : Nat) (x1 : Int32) (s : zσ) : Option (Int32 × zσ) :=
    if x1 < (1 : Int32) then
    some ((-2 : Int32), s)
    else if (3 : Int32) < x1 then
    some ((-2 : Int32), s)
    else zlet ((s.1 1132 18)) fun v1 =>
    zlet (sI s 1132 18 x1) fun u2 =>
    some (v1, u2)
def f209 (n : Nat) (s : zσ) : Option (Int32 × zσ) :=
    zrd 12 (s.2.2 1132 11) fun a1 =>
    if zin? (8 : Int32) 9 = true then
    some ((s.1 (a1 + 4) (nx (8 : Int32))), s)
    else none
def f212 (n : Nat) (x1 : Int32) (x2 : Int32) (x3 : Int32) (s : zσ) : Option zσ :=
    if zin? x1 8 = true then
    zlet ((((140 : Int32) * x1) + (s.1 1235 (nx x1)))) fun v1 =>
    if zin? v1 1120 = true then
    zlet (sI s 1236 (nx v1) x2) fun u2 =>
    zrd 12 (u2.2.2 1132 11) fun a3 =>
    if zin? x2 2000 = true then
    if zin? v1 1120 = true then
    zlet (sI u2 1237 (nx v1) (u2.1 (a3 + 13) (nx x2))) fun u4 =>
    if zin? v1 1120 = true then
    zlet (sI u4 1238 (nx v1) (vp_nar .boolean x3)) fun u5 =>
    if zin? x1 8 = true then
    if zin? x1 8 = true then
    zlet (sI u5 1235 (nx x1) ((u5.1 1235 (nx x1)) + (1 : Int32))) fun u6 =>
    if x3 = (0 : Int32) then
    some u6
    else if zin? x1 8 = true then
    if zin? x1 8 = true then
    zlet (sI u6 1234 (nx x1) ((u6.1 1234 (nx x1)) + (1 : Int32))) fun u7 =>
    zlet (sI u7 1132 26 ((u7.1 1132 26) + (1 : Int32))) fun u8 =>
    some u8
    else none
    else none
    else none
    else none
    else none
    else none
    else none
    else none
    else none
def f214 (n : Nat) (x1 : Int32) (s : zσ) : Option (Int32 × zσ) :=
    if zin? x1 8 = true then
    some (((((140 : Int32) * x1) + (s.1 1235 (nx x1))) - (1 : Int32)), s)
    else none
def f215 (n : Nat) (x1 : Int32) (s : zσ) : Option (Int32 × zσ) :=
    if zin? x1 8 = true then
    if zin? x1 8 = true then
    zlet (sI s 1235 (nx x1) ((s.1 1235 (nx x1)) - (1 : Int32))) fun u1 =>
    if zin? x1 8 = true then
    if zin? (((140 : Int32) * x1) + (u1.1 1235 (nx x1))) 1120 = true then
    zlet ((u1.1 1238 (nx (((140 : Int32) * x1) + (u1.1 1235 (nx x1)))))) fun v2 =>
    if v2 = (0 : Int32) then
    if v2 = 0 ∨ v2 = 1 then
    some (v2, u1)
    else none
    else if zin? x1 8 = true then
    if zin? x1 8 = true then
    zlet (sI u1 1234 (nx x1) ((u1.1 1234 (nx x1)) - (1 : Int32))) fun u3 =>
    zlet (sI u3 1132 27 ((u3.1 1132 27) + (1 : Int32))) fun u4 =>
    if v2 = 0 ∨ v2 = 1 then
    some (v2, u4)
    else none
    else none
    else none
    else none
    else none
    else none
    else none
def f218_6 (n : Nat) : Nat → Int32 → zσ → Option (Int32 × zσ)
  | 0, _, _ => none
  | j + 1, x2, s =>
    if zin? x2 1120 = true then
    if (s.1 1238 (nx x2)) = (0 : Int32) then
    f218_6 n j (x2 + (-1 : Int32)) s
    else some (x2, s)
    else none
def f218 (n : Nat) (x1 : Int32) (s : zσ) : Option (Int32 × zσ) :=
    yb1 (f214 n x1 s) fun v2 u1 =>
    f218_6 n n v2 u1
def f217 (n : Nat) (x1 : Int32) (x2 : Int32) (x3 : Int32) (s : zσ) : Option zσ :=
    zrd 12 (s.2.2 1132 11) fun a1 =>
    if zin? x2 1400 = true then
    zlet ((s.1 (a1 + 33) (nx x2))) fun v2 =>
    zrd 12 (s.2.2 1132 11) fun a3 =>
    if zin? x2 1400 = true then
    if (s.1 (a3 + 34) (nx x2)) = (0 : Int32) then
    if zin? v2 8 = true then
    zlet (sI s 1207 (nx v2) x3) fun u7 =>
    some u7
    else none
    else yb1 (f218 n x1 s) fun v5 u4 =>
    if zin? (((3 : Int32) * v5) + v2) 3360 = true then
    zlet (sI u4 1239 (nx (((3 : Int32) * v5) + v2)) x3) fun u6 =>
    some u6
    else none
    else none
    else none
def f216_39 (n : Nat) (x1 : Int32) (x3 : Int32) (s : zσ) : Option zσ :=
    yb1 (f214 n x1 s) fun v2 u1 =>
    zrd 12 (u1.2.2 1132 11) fun a3 =>
    if zin? x3 200 = true then
    if zin? v2 1120 = true then
    zlet (sI u1 1237 (nx v2) (u1.1 (a3 + 16) (nx x3))) fun u4 =>
    some u4
    else none
    else none
def f216 (n : Nat) (x1 : Int32) (x2 : Int32) (s : zσ) : Option zσ :=
    yb1 (f214 n x1 s) fun v2 u1 =>
    if zin? v2 1120 = true then
    zlet ((u1.1 1237 (nx v2))) fun v3 =>
    zrd 12 (u1.2.2 1132 11) fun a4 =>
    if zin? v3 200 = true then
    if (u1.1 (a4 + 17) (nx v3)) = (-1 : Int32) then
    f216_39 n x1 v3 u1
    else zrd 12 (u1.2.2 1132 11) fun a5 =>
    if zin? v3 200 = true then
    yb0 (f217 n x1 (u1.1 (a5 + 17) (nx v3)) x2 u1) fun u6 =>
    f216_39 n x1 v3 u6
    else none
    else none
    else none
def f213_103 (n : Nat) (g : Int32 → zσ → Option zσ) (x1 : Int32) (s : zσ) : Option zσ :=
    if zin? x1 8 = true then
    if (s.1 1235 (nx x1)) = (0 : Int32) then
    if zin? x1 8 = true then
    if (s.1 1225 (nx x1)) = (0 : Int32) then
    some s
    else yb0 (g x1 s) fun u1 =>
    some u1
    else none
    else some s
    else none
def f213_0 (n : Nat) (g : Int32 → zσ → Option zσ) : Nat → Int32 → zσ → Option zσ
  | 0, _, _ => none
  | j + 1, x1, s =>
    if zin? x1 8 = true then
    if (0 : Int32) < (s.1 1235 (nx x1)) then
    yb1 (f214 n x1 s) fun v2 u1 =>
    if zin? v2 1120 = true then
    if (u1.1 1237 (nx v2)) = (-1 : Int32) then
    yb1 (f215 n x1 u1) fun v4 u3 =>
    if v4 = (0 : Int32) then
    if zin? x1 8 = true then
    if (0 : Int32) < (u3.1 1235 (nx x1)) then
    zrd 12 (u3.2.2 1132 11) fun a5 =>
    yb1 (f214 n x1 u3) fun v7 u6 =>
    if zin? v7 1120 = true then
    if zin? (u6.1 1237 (nx v7)) 200 = true then
    if (u6.1 (a5 + 15) (nx (u6.1 1237 (nx v7)))) = (6 : Int32) then
    f213_0 n g j x1 u6
    else yb1 (f214 n x1 u6) fun v9 u8 =>
    zrd 12 (u8.2.2 1132 11) fun a10 =>
    yb1 (f214 n x1 u8) fun v12 u11 =>
    if zin? v12 1120 = true then
    if zin? (u11.1 1237 (nx v12)) 200 = true then
    if zin? v9 1120 = true then
    zlet (sI u11 1237 (nx v9) (u11.1 (a10 + 16) (nx (u11.1 1237 (nx v12))))) fun u13 =>
    f213_0 n g j x1 u13
    else none
    else none
    else none
    else none
    else none
    else f213_0 n g j x1 u3
    else none
    else yb0 (f216 n x1 (0 : Int32) u3) fun u14 =>
    f213_0 n g j x1 u14
    else f213_103 n g x1 u1
    else none
    else f213_103 n g x1 s
    else none
def f213 (n : Nat) (g : Int32 → zσ → Option zσ) (x1 : Int32) (s : zσ) : Option zσ :=
    f213_0 n g n x1 s
def f211 (n : Nat) (g : Int32 → zσ → Option zσ) (x1 : Int32) (s : zσ) : Option zσ :=
    if zin? x1 8 = true then
    zlet (sI s 1225 (nx x1) (1 : Int32)) fun u1 =>
    zrd 12 (u1.2.2 1132 11) fun a2 =>
    if zin? x1 8 = true then
    if zin? x1 8 = true then
    zlet (sI u1 1226 (nx x1) (u1.1 (a2 + 8) (nx x1))) fun u3 =>
    if zin? x1 8 = true then
    zlet (sI u3 1227 (nx x1) (u3.1 1132 30)) fun u4 =>
    zlet (sI u4 1132 30 ((u4.1 1132 30) + (1 : Int32))) fun u5 =>
    if zin? x1 8 = true then
    if zin? x1 8 = true then
    zlet (sI u5 1231 (nx x1) ((u5.1 1231 (nx x1)) + (1 : Int32))) fun u6 =>
    zrd 12 (u6.2.2 1132 11) fun a7 =>
    if zin? x1 8 = true then
    yb0 (f212 n x1 (u6.1 (a7 + 7) (nx x1)) (0 : Int32) u6) fun u8 =>
    yb0 (f213 n g x1 u8) fun u9 =>
    some u9
    else none
    else none
    else none
    else none
    else none
    else none
    else none
def f219_0 (n : Nat) (g : Int32 → zσ → Option zσ) : Nat → Int32 → zσ → Option zσ
  | 0, _, _ => none
  | j + 1, x1, s =>
    if zin? x1 8 = true then
    if (0 : Int32) < (s.1 1235 (nx x1)) then
    yb1 (f215 n x1 s) fun v8 u7 =>
    f219_0 n g j x1 u7
    else if zin? x1 8 = true then
    zlet (sI s 1225 (nx x1) (0 : Int32)) fun u1 =>
    if zin? x1 8 = true then
    zlet (sI u1 1226 (nx x1) (0 : Int32)) fun u2 =>
    if zin? x1 8 = true then
    if zin? x1 8 = true then
    zlet (sI u2 1232 (nx x1) ((u2.1 1232 (nx x1)) + (1 : Int32))) fun u3 =>
    if zin? (((2 : Int32) * x1) + (1 : Int32)) 16 = true then
    zlet (sI u3 1240 (nx (((2 : Int32) * x1) + (1 : Int32))) (vp_nar .boolean (0 : Int32))) fun u4 =>
    if zin? x1 8 = true then
    if (0 : Int32) < (u4.1 1229 (nx x1)) then
    if zin? x1 8 = true then
    if zin? x1 8 = true then
    zlet (sI u4 1229 (nx x1) ((u4.1 1229 (nx x1)) - (1 : Int32))) fun u5 =>
    yb0 (f211 n g x1 u5) fun u6 =>
    some u6
    else none
    else none
    else some u4
    else none
    else none
    else none
    else none
    else none
    else none
    else none
def f219b (n : Nat) (g : Int32 → zσ → Option zσ) (x1 : Int32) (s : zσ) : Option zσ :=
    f219_0 n g n x1 s
def f219 (n : Nat) : Nat → Int32 → zσ → Option zσ
  | 0, _, _ => none
  | k + 1, x1, s => f219b n (f219 n k) x1 s
def f210 (n : Nat) (x1 : Int32) (s : zσ) : Option zσ :=
    if zin? x1 8 = true then
    if (s.1 1225 (nx x1)) = (0 : Int32) then
    yb0 (f211 n (f219 n 4) x1 s) fun u3 =>
    some u3
    else if zin? x1 8 = true then
    if (s.1 1229 (nx x1)) < (3 : Int32) then
    if zin? x1 8 = true then
    if zin? x1 8 = true then
    zlet (sI s 1229 (nx x1) ((s.1 1229 (nx x1)) + (1 : Int32))) fun u2 =>
    some u2
    else none
    else none
    else if zin? x1 8 = true then
    if zin? x1 8 = true then
    zlet (sI s 1230 (nx x1) ((s.1 1230 (nx x1)) + (1 : Int32))) fun u1 =>
    some u1
    else none
    else none
    else none
    else none
def f220_28 (n : Nat) (r4 : Int32 → Int32 → zσ → Option (Int32 × zσ)) (x2 : Int32) (y0 : Int32) (y1 : Int32) (s : zσ) : Option (Int32 × zσ) :=
    zlet ((y1 + y0)) fun v1 =>
    r4 v1 (x2 + (1 : Int32)) s
def f220_4 (n : Nat) : Nat → Int32 → Int32 → zσ → Option (Int32 × zσ)
  | 0, _, _, _ => none
  | j + 1, x1, x2, s =>
    yb1 (f209 n s) fun v2 u1 =>
    if x2 < v2 then
    if zin? x2 8 = true then
    if (u1.1 1225 (nx x2)) = (1 : Int32) then
    f220_28 n (f220_4 n j) x2 (1 : Int32) x1 u1
    else f220_28 n (f220_4 n j) x2 (0 : Int32) x1 u1
    else none
    else some (x1, u1)
def f220 (n : Nat) (s : zσ) : Option (Int32 × zσ) :=
    f220_4 n n (0 : Int32) (0 : Int32) s
def f208_301 (n : Nat) (r276 : Int32 → zσ → Option (Int32 × zσ)) (x1 : Int32) (s : zσ) : Option (Int32 × zσ) :=
    r276 (x1 + (1 : Int32)) s
def f208_276 (n : Nat) : Nat → Int32 → zσ → Option (Int32 × zσ)
  | 0, _, _ => none
  | j + 1, x1, s =>
    yb1 (f209 n s) fun v2 u1 =>
    if x1 < v2 then
    zrd 12 (u1.2.2 1132 11) fun a5 =>
    if zin? x1 8 = true then
    if (u1.1 (a5 + 9) (nx x1)) = (0 : Int32) then
    f208_301 n (f208_276 n j) x1 u1
    else yb0 (f210 n x1 u1) fun u6 =>
    f208_301 n (f208_276 n j) x1 u6
    else none
    else yb1 (f220 n u1) fun v4 u3 =>
    some (v4, u3)
def f208_255 (n : Nat) : Nat → Int32 → zσ → Option (Int32 × zσ)
  | 0, _, _ => none
  | j + 1, x1, s =>
    if x1 < (16 : Int32) then
    if zin? x1 16 = true then
    zlet (sI s 1240 (nx x1) (vp_nar .boolean (0 : Int32))) fun u1 =>
    f208_255 n j (x1 + (1 : Int32)) u1
    else none
    else f208_276 n n (0 : Int32) s
def f208_234 (n : Nat) : Nat → Int32 → zσ → Option (Int32 × zσ)
  | 0, _, _ => none
  | j + 1, x1, s =>
    if x1 < (32 : Int32) then
    if zin? x1 32 = true then
    zlet (sI s 1213 (nx x1) (0 : Int32)) fun u1 =>
    f208_234 n j (x1 + (1 : Int32)) u1
    else none
    else f208_255 n n (0 : Int32) s
def f208_157 (n : Nat) : Nat → Int32 → zσ → Option (Int32 × zσ)
  | 0, _, _ => none
  | j + 1, x1, s =>
    if x1 < (4 : Int32) then
    if zin? x1 4 = true then
    zlet (sI s 1208 (nx x1) (-1 : Int32)) fun u1 =>
    zrd 12 (u1.2.2 1132 11) fun a2 =>
    if zin? x1 4 = true then
    if zin? x1 4 = true then
    zlet (sI u1 1211 (nx x1) (u1.1 (a2 + 6) (nx x1))) fun u3 =>
    if zin? x1 4 = true then
    zlet (sI u3 1212 (nx x1) (-1 : Int32)) fun u4 =>
    if zin? x1 4 = true then
    zlet (sI u4 1214 (nx x1) (vp_nar .boolean (1 : Int32))) fun u5 =>
    if zin? x1 4 = true then
    zlet (sI u5 1215 (nx x1) (vp_nar .boolean (0 : Int32))) fun u6 =>
    if zin? x1 4 = true then
    zlet (sI u6 1216 (nx x1) (0 : Int32)) fun u7 =>
    if zin? x1 4 = true then
    zlet (sI u7 1218 (nx x1) (0 : Int32)) fun u8 =>
    if zin? x1 4 = true then
    zlet (sI u8 1220 (nx x1) (0 : Int32)) fun u9 =>
    f208_157 n j (x1 + (1 : Int32)) u9
    else none
    else none
    else none
    else none
    else none
    else none
    else none
    else none
    else none
    else f208_234 n n (0 : Int32) s
def f208_65 (n : Nat) : Nat → Int32 → zσ → Option (Int32 × zσ)
  | 0, _, _ => none
  | j + 1, x1, s =>
    if x1 < (8 : Int32) then
    zrd 12 (s.2.2 1132 11) fun a1 =>
    if zin? x1 8 = true then
    if zin? x1 8 = true then
    zlet (sI s 1207 (nx x1) (s.1 (a1 + 5) (nx x1))) fun u2 =>
    if zin? x1 8 = true then
    zlet (sI u2 1225 (nx x1) (0 : Int32)) fun u3 =>
    if zin? x1 8 = true then
    zlet (sI u3 1226 (nx x1) (0 : Int32)) fun u4 =>
    if zin? x1 8 = true then
    zlet (sI u4 1229 (nx x1) (0 : Int32)) fun u5 =>
    if zin? x1 8 = true then
    zlet (sI u5 1230 (nx x1) (0 : Int32)) fun u6 =>
    if zin? x1 8 = true then
    zlet (sI u6 1231 (nx x1) (0 : Int32)) fun u7 =>
    if zin? x1 8 = true then
    zlet (sI u7 1232 (nx x1) (0 : Int32)) fun u8 =>
    if zin? x1 8 = true then
    zlet (sI u8 1233 (nx x1) (0 : Int32)) fun u9 =>
    if zin? x1 8 = true then
    zlet (sI u9 1234 (nx x1) (0 : Int32)) fun u10 =>
    if zin? x1 8 = true then
    zlet (sI u10 1235 (nx x1) (0 : Int32)) fun u11 =>
    f208_65 n j (x1 + (1 : Int32)) u11
    else none
    else none
    else none
    else none
    else none
    else none
    else none
    else none
    else none
    else none
    else none
    else f208_157 n n (0 : Int32) s
def f208 (n : Nat) (s : zσ) : Option (Int32 × zσ) :=
    if (s.1 1132 13) = (0 : Int32) then
    some ((-3 : Int32), s)
    else zlet (sI s 1132 17 (1 : Int32)) fun u1 =>
    zlet (sI u1 1132 19 (u1.1 1132 18)) fun u2 =>
    zlet (sI u2 1132 20 (0 : Int32)) fun u3 =>
    zlet (sI u3 1132 21 (0 : Int32)) fun u4 =>
    zlet (sI u4 1132 22 (0 : Int32)) fun u5 =>
    zlet (sI u5 1132 23 (0 : Int32)) fun u6 =>
    zlet (sI u6 1132 24 (0 : Int32)) fun u7 =>
    zlet (sI u7 1132 25 (0 : Int32)) fun u8 =>
    zlet (sI u8 1132 26 (0 : Int32)) fun u9 =>
    zlet (sI u9 1132 27 (0 : Int32)) fun u10 =>
    f208_65 n n (0 : Int32) u10
def f223_51 (n : Nat) (r4 : Int32 → Int32 → zσ → Option (Int32 × zσ)) (x1 : Int32) (x2 : Int32) (s : zσ) : Option (Int32 × zσ) :=
    r4 x1 (x2 + (1 : Int32)) s
def f223_49 (n : Nat) (r4 : Int32 → Int32 → zσ → Option (Int32 × zσ)) (x2 : Int32) (s : zσ) : Option (Int32 × zσ) :=
    f223_51 n r4 x2 x2 s
def f223_4 (n : Nat) : Nat → Int32 → Int32 → zσ → Option (Int32 × zσ)
  | 0, _, _, _ => none
  | j + 1, x1, x2, s =>
    if x2 < (16 : Int32) then
    if zin? x2 16 = true then
    if (s.1 1240 (nx x2)) = (0 : Int32) then
    f223_51 n (f223_4 n j) x1 x2 s
    else if zin? x2 16 = true then
    if (s.1 1244 (nx x2)) = (-1 : Int32) then
    if x1 = (-1 : Int32) then
    f223_49 n (f223_4 n j) x2 s
    else if zin? x2 16 = true then
    if zin? x1 16 = true then
    if (s.1 1241 (nx x2)) < (s.1 1241 (nx x1)) then
    f223_49 n (f223_4 n j) x2 s
    else f223_51 n (f223_4 n j) x1 x2 s
    else none
    else none
    else f223_51 n (f223_4 n j) x1 x2 s
    else none
    else none
    else some (x1, s)
def f223 (n : Nat) (s : zσ) : Option (Int32 × zσ) :=
    f223_4 n n (-1 : Int32) (0 : Int32) s
def f225 (n : Nat) (x1 : Int32) (s : zσ) : Option (Int32 × zσ) :=
    if zin? x1 8 = true then
    if (s.1 1225 (nx x1)) = (2 : Int32) then
    if zin? x1 8 = true then
    zlet (sI s 1225 (nx x1) (1 : Int32)) fun u2 =>
    if zin? x1 8 = true then
    zlet (sI u2 1227 (nx x1) (u2.1 1132 30)) fun u3 =>
    zlet (sI u3 1132 30 ((u3.1 1132 30) + (1 : Int32))) fun u4 =>
    some ((1 : Int32), u4)
    else none
    else none
    else if zin? x1 8 = true then
    if (s.1 1225 (nx x1)) = (4 : Int32) then
    if zin? x1 8 = true then
    zlet (sI s 1225 (nx x1) (3 : Int32)) fun u1 =>
    some ((1 : Int32), u1)
    else none
    else some ((0 : Int32), s)
    else none
    else none
def f228_20 (n : Nat) (s : zσ) : Option (Int32 × zσ) :=
    some ((1 : Int32), s)
def f228 (n : Nat) (x1 : Int32) (s : zσ) : Option (Int32 × zσ) :=
    if zin? x1 8 = true then
    if (s.1 1225 (nx x1)) = (3 : Int32) then
    f228_20 n s
    else if zin? x1 8 = true then
    if (s.1 1225 (nx x1)) = (4 : Int32) then
    f228_20 n s
    else some ((0 : Int32), s)
    else none
    else none
def f229 (n : Nat) (x1 : Int32) (x2 : Int32) (s : zσ) : Option (Int32 × zσ) :=
    if zin? x1 8 = true then
    if zin? x2 8 = true then
    if (s.1 1226 (nx x1)) = (s.1 1226 (nx x2)) then
    if zin? x1 8 = true then
    if zin? x2 8 = true then
    if (s.1 1228 (nx x1)) < (s.1 1228 (nx x2)) then
    some ((1 : Int32), s)
    else some ((0 : Int32), s)
    else none
    else none
    else if zin? x1 8 = true then
    if zin? x2 8 = true then
    if (s.1 1226 (nx x1)) < (s.1 1226 (nx x2)) then
    some ((1 : Int32), s)
    else some ((0 : Int32), s)
    else none
    else none
    else none
    else none
def f227_50 (n : Nat) (r4 : Int32 → Int32 → Int32 → zσ → Option (Int32 × zσ)) (x1 : Int32) (x2 : Int32) (x3 : Int32) (s : zσ) : Option (Int32 × zσ) :=
    r4 x1 x2 (x3 + (1 : Int32)) s
def f227_48 (n : Nat) (r4 : Int32 → Int32 → Int32 → zσ → Option (Int32 × zσ)) (x1 : Int32) (x3 : Int32) (s : zσ) : Option (Int32 × zσ) :=
    f227_50 n r4 x1 x3 x3 s
def f227_34 (n : Nat) (r4 : Int32 → Int32 → Int32 → zσ → Option (Int32 × zσ)) (x1 : Int32) (x2 : Int32) (x3 : Int32) (s : zσ) : Option (Int32 × zσ) :=
    if x2 = (-1 : Int32) then
    f227_48 n r4 x1 x3 s
    else yb1 (f229 n x3 x2 s) fun v2 u1 =>
    if v2 = (0 : Int32) then
    f227_50 n r4 x1 x2 x3 u1
    else f227_48 n r4 x1 x3 u1
def f227_4 (n : Nat) : Nat → Int32 → Int32 → Int32 → zσ → Option (Int32 × zσ)
  | 0, _, _, _, _ => none
  | j + 1, x1, x2, x3, s =>
    yb1 (f209 n s) fun v2 u1 =>
    if x3 < v2 then
    yb1 (f228 n x3 u1) fun v4 u3 =>
    if v4 = (0 : Int32) then
    f227_50 n (f227_4 n j) x1 x2 x3 u3
    else if x1 = (-1 : Int32) then
    f227_34 n (f227_4 n j) x1 x2 x3 u3
    else yb1 (f229 n x1 x3 u3) fun v6 u5 =>
    if v6 = (0 : Int32) then
    f227_50 n (f227_4 n j) x1 x2 x3 u5
    else f227_34 n (f227_4 n j) x1 x2 x3 u5
    else some (x2, u1)
def f227 (n : Nat) (x1 : Int32) (s : zσ) : Option (Int32 × zσ) :=
    f227_4 n n x1 (-1 : Int32) (0 : Int32) s
def f232_51 (n : Nat) (r5 : Int32 → Int32 → Int32 → Int32 → zσ → Option (Int32 × zσ)) (x1 : Int32) (x2 : Int32) (x4 : Int32) (y0 : Int32) (y1 : Int32) (s : zσ) : Option (Int32 × zσ) :=
    zlet ((y1 + y0)) fun v1 =>
    r5 x1 x2 v1 (x4 + (1 : Int32)) s
def f232_5 (n : Nat) : Nat → Int32 → Int32 → Int32 → Int32 → zσ → Option (Int32 × zσ)
  | 0, _, _, _, _, _ => none
  | j + 1, x1, x2, x3, x4, s =>
    zrd 12 (s.2.2 1132 11) fun a1 =>
    if zin? x1 200 = true then
    if x4 < (s.1 (a1 + 20) (nx x1)) then
    zrd 12 (s.2.2 1132 11) fun a2 =>
    zrd 12 (s.2.2 1132 11) fun a3 =>
    if zin? (((4 : Int32) * x1) + x4) 800 = true then
    if zin? (s.1 (a3 + 21) (nx (((4 : Int32) * x1) + x4))) 1400 = true then
    if (s.1 (a2 + 33) (nx (s.1 (a3 + 21) (nx (((4 : Int32) * x1) + x4))))) = x2 then
    f232_51 n (f232_5 n j) x1 x2 x4 (1 : Int32) x3 s
    else f232_51 n (f232_5 n j) x1 x2 x4 (0 : Int32) x3 s
    else none
    else none
    else some (x3, s)
    else none
def f232 (n : Nat) (x1 : Int32) (x2 : Int32) (s : zσ) : Option (Int32 × zσ) :=
    f232_5 n n x1 x2 (0 : Int32) (0 : Int32) s
def f231_33 (n : Nat) (r4 : Int32 → Int32 → Int32 → zσ → Option (Int32 × zσ)) (x1 : Int32) (x3 : Int32) (y0 : Int32) (s : zσ) : Option (Int32 × zσ) :=
    r4 x1 y0 (x3 + (1 : Int32)) s
def f231_32 (n : Nat) (r4 : Int32 → Int32 → Int32 → zσ → Option (Int32 × zσ)) (x1 : Int32) (x3 : Int32) (s : zσ) : Option (Int32 × zσ) :=
    f231_33 n r4 x1 x3 (0 : Int32) s
def f231_4 (n : Nat) : Nat → Int32 → Int32 → Int32 → zσ → Option (Int32 × zσ)
  | 0, _, _, _, _ => none
  | j + 1, x1, x2, x3, s =>
    if x3 < (4 : Int32) then
    if x2 = (0 : Int32) then
    f231_32 n (f231_4 n j) x1 x3 s
    else if zin? x3 4 = true then
    yb1 (f232 n x1 x3 s) fun v2 u1 =>
    if (s.1 1211 (nx x3)) < v2 then
    f231_32 n (f231_4 n j) x1 x3 u1
    else f231_33 n (f231_4 n j) x1 x3 (1 : Int32) u1
    else none
    else if x2 = 0 ∨ x2 = 1 then
    some (x2, s)
    else none
def f231 (n : Nat) (x1 : Int32) (s : zσ) : Option (Int32 × zσ) :=
    f231_4 n n x1 (1 : Int32) (0 : Int32) s
def f233_4 (n : Nat) : Nat → Int32 → Int32 → Int32 → zσ → Option (Int32 × zσ)
  | 0, _, _, _, _ => none
  | j + 1, x1, x2, x3, s =>
    if x3 < (8 : Int32) then
    if zin? (((8 : Int32) * x1) + x3) 32 = true then
    zlet ((x2 + (s.1 1213 (nx (((8 : Int32) * x1) + x3))))) fun v1 =>
    f233_4 n j x1 v1 (x3 + (1 : Int32)) s
    else none
    else some (x2, s)
def f233 (n : Nat) (x1 : Int32) (s : zσ) : Option (Int32 × zσ) :=
    f233_4 n n x1 (0 : Int32) (0 : Int32) s
def f234_22 (n : Nat) (x2 : Int32) (x3 : Int32) (y0 : Int32) (s : zσ) : Option (Int32 × zσ) :=
    if y0 = (-1 : Int32) then
    some ((0 : Int32), s)
    else zrd 12 (s.2.2 1132 11) fun a1 =>
    if zin? y0 200 = true then
    if (s.1 (a1 + 15) (nx y0)) = x2 then
    zrd 12 (s.2.2 1132 11) fun a2 =>
    zrd 12 (s.2.2 1132 11) fun a3 =>
    if zin? y0 200 = true then
    if zin? (s.1 (a3 + 17) (nx y0)) 1400 = true then
    if (s.1 (a2 + 33) (nx (s.1 (a3 + 17) (nx y0)))) = x3 then
    some ((1 : Int32), s)
    else some ((0 : Int32), s)
    else none
    else none
    else some ((0 : Int32), s)
    else none
def f234 (n : Nat) (x1 : Int32) (x2 : Int32) (x3 : Int32) (s : zσ) : Option (Int32 × zσ) :=
    yb1 (f228 n x1 s) fun v2 u1 =>
    if v2 = (0 : Int32) then
    f234_22 n x2 x3 (-1 : Int32) u1
    else yb1 (f214 n x1 u1) fun v4 u3 =>
    if zin? v4 1120 = true then
    f234_22 n x2 x3 (u3.1 1237 (nx v4)) u3
    else none
def f230_194 (n : Nat) (r153 : Int32 → Int32 → Int32 → Int32 → zσ → Option (Int32 × zσ)) (x1 : Int32) (x3 : Int32) (x5 : Int32) (y0 : Int32) (s : zσ) : Option (Int32 × zσ) :=
    r153 x1 x3 y0 (x5 + (1 : Int32)) s
def f230_193 (n : Nat) (r153 : Int32 → Int32 → Int32 → Int32 → zσ → Option (Int32 × zσ)) (x1 : Int32) (x3 : Int32) (x5 : Int32) (s : zσ) : Option (Int32 × zσ) :=
    f230_194 n r153 x1 x3 x5 (0 : Int32) s
def f230_189 (n : Nat) (r153 : Int32 → Int32 → Int32 → Int32 → zσ → Option (Int32 × zσ)) (x1 : Int32) (x3 : Int32) (x5 : Int32) (s : zσ) : Option (Int32 × zσ) :=
    f230_194 n r153 x1 x3 x5 (1 : Int32) s
def f230_153 (n : Nat) : Nat → Int32 → Int32 → Int32 → Int32 → zσ → Option (Int32 × zσ)
  | 0, _, _, _, _, _ => none
  | j + 1, x1, x3, x4, x5, s =>
    yb1 (f209 n s) fun v2 u1 =>
    if x5 < v2 then
    if x4 = (0 : Int32) then
    f230_193 n (f230_153 n j) x1 x3 x5 u1
    else yb1 (f234 n x5 (12 : Int32) x3 u1) fun v4 u3 =>
    if v4 = (0 : Int32) then
    f230_189 n (f230_153 n j) x1 x3 x5 u3
    else yb1 (f229 n x5 x1 u3) fun v6 u5 =>
    if v6 = (0 : Int32) then
    f230_189 n (f230_153 n j) x1 x3 x5 u5
    else f230_193 n (f230_153 n j) x1 x3 x5 u5
    else if x4 = 0 ∨ x4 = 1 then
    some (x4, u1)
    else none
def f230_148 (n : Nat) (x1 : Int32) (x3 : Int32) (y0 : Int32) (s : zσ) : Option (Int32 × zσ) :=
    f230_153 n n x1 x3 y0 (0 : Int32) s
def f230_45 (n : Nat) (x1 : Int32) (x2 : Int32) (y0 : Int32) (s : zσ) : Option (Int32 × zσ) :=
    zrd 12 (s.2.2 1132 11) fun a1 =>
    if zin? x2 200 = true then
    if (s.1 (a1 + 15) (nx x2)) = (10 : Int32) then
    yb1 (f231 n x2 s) fun v3 u2 =>
    if v3 = 0 ∨ v3 = 1 then
    some (v3, u2)
    else none
    else if (s.1 (a1 + 15) (nx x2)) = (12 : Int32) then
    if zin? y0 4 = true then
    if (s.1 1212 (nx y0)) = (-1 : Int32) then
    yb1 (f233 n y0 s) fun v5 u4 =>
    if v5 = (0 : Int32) then
    some ((1 : Int32), u4)
    else some ((0 : Int32), u4)
    else some ((0 : Int32), s)
    else none
    else if (s.1 (a1 + 15) (nx x2)) = (23 : Int32) then
    if zin? y0 4 = true then
    if (0 : Int32) < (s.1 1218 (nx y0)) then
    some ((1 : Int32), s)
    else some ((0 : Int32), s)
    else none
    else if zin? y0 4 = true then
    if (s.1 1212 (nx y0)) = (-1 : Int32) then
    f230_148 n x1 y0 (1 : Int32) s
    else f230_148 n x1 y0 (0 : Int32) s
    else none
    else none
def f230 (n : Nat) (x1 : Int32) (s : zσ) : Option (Int32 × zσ) :=
    yb1 (f214 n x1 s) fun v2 u1 =>
    if zin? v2 1120 = true then
    zlet ((u1.1 1237 (nx v2))) fun v3 =>
    zrd 12 (u1.2.2 1132 11) fun a4 =>
    if zin? v3 200 = true then
    if (u1.1 (a4 + 17) (nx v3)) = (-1 : Int32) then
    f230_45 n x1 v3 (-1 : Int32) u1
    else zrd 12 (u1.2.2 1132 11) fun a5 =>
    zrd 12 (u1.2.2 1132 11) fun a6 =>
    if zin? v3 200 = true then
    if zin? (u1.1 (a6 + 17) (nx v3)) 1400 = true then
    f230_45 n x1 v3 (u1.1 (a5 + 33) (nx (u1.1 (a6 + 17) (nx v3)))) u1
    else none
    else none
    else none
    else none
def f236_22 (n : Nat) : Nat → Int32 → Int32 → Int32 → zσ → Option (Int32 × zσ)
  | 0, _, _, _, _ => none
  | j + 1, x1, x2, x3, s =>
    if zin? x1 4 = true then
    if x3 < (s.1 1218 (nx x1)) then
    if zin? ((((20 : Int32) * x1) + x3) + (1 : Int32)) 80 = true then
    if zin? (((20 : Int32) * x1) + x3) 80 = true then
    zlet (sI s 1217 (nx (((20 : Int32) * x1) + x3)) (s.1 1217 (nx ((((20 : Int32) * x1) + x3) + (1 : Int32))))) fun u1 =>
    f236_22 n j x1 x2 (x3 + (1 : Int32)) u1
    else none
    else none
    else some (x2, s)
    else none
def f236 (n : Nat) (x1 : Int32) (s : zσ) : Option (Int32 × zσ) :=
    if zin? ((20 : Int32) * x1) 80 = true then
    zlet ((s.1 1217 (nx ((20 : Int32) * x1)))) fun v1 =>
    if zin? x1 4 = true then
    if zin? x1 4 = true then
    zlet (sI s 1218 (nx x1) ((s.1 1218 (nx x1)) - (1 : Int32))) fun u2 =>
    f236_22 n n x1 v1 (0 : Int32) u2
    else none
    else none
    else none
def f237 (n : Nat) (x1 : Int32) (s : zσ) : Option zσ :=
    yb1 (f214 n x1 s) fun v2 u1 =>
    zrd 12 (u1.2.2 1132 11) fun a3 =>
    yb1 (f214 n x1 u1) fun v5 u4 =>
    if zin? v5 1120 = true then
    if zin? (u4.1 1237 (nx v5)) 200 = true then
    if zin? v2 1120 = true then
    zlet (sI u4 1237 (nx v2) (u4.1 (a3 + 16) (nx (u4.1 1237 (nx v5))))) fun u6 =>
    yb0 (f213 n (f219 n 4) x1 u6) fun u7 =>
    some u7
    else none
    else none
    else none
def f235_198 (n : Nat) (x1 : Int32) (y0 : Int32) (y1 : Int32) (s : zσ) : Option zσ :=
    if zin? y1 8 = true then
    zlet (sI s 1225 (nx y1) y0) fun u1 =>
    if zin? x1 8 = true then
    zlet (sI u1 1227 (nx x1) (u1.1 1132 30)) fun u2 =>
    zlet (sI u2 1132 30 ((u2.1 1132 30) + (1 : Int32))) fun u3 =>
    yb0 (f237 n x1 u3) fun u4 =>
    some u4
    else none
    else none
def f235_178 (n : Nat) (x1 : Int32) (s : zσ) : Option zσ :=
    if zin? x1 8 = true then
    if (s.1 1225 (nx x1)) = (4 : Int32) then
    f235_198 n x1 (2 : Int32) x1 s
    else f235_198 n x1 (1 : Int32) x1 s
    else none
def f235_91 (n : Nat) : Nat → Int32 → Int32 → Int32 → zσ → Option zσ
  | 0, _, _, _, _ => none
  | j + 1, x1, x2, x4, s =>
    if x4 < (4 : Int32) then
    if zin? x4 4 = true then
    yb1 (f232 n x2 x4 s) fun v2 u1 =>
    if zin? x4 4 = true then
    zlet (sI u1 1211 (nx x4) ((s.1 1211 (nx x4)) - v2)) fun u3 =>
    f235_91 n j x1 x2 (x4 + (1 : Int32)) u3
    else none
    else none
    else f235_178 n x1 s
def f235_45 (n : Nat) (x1 : Int32) (x2 : Int32) (y0 : Int32) (s : zσ) : Option zσ :=
    zrd 12 (s.2.2 1132 11) fun a1 =>
    if zin? x2 200 = true then
    if (s.1 (a1 + 15) (nx x2)) = (10 : Int32) then
    f235_91 n n x1 x2 (0 : Int32) s
    else if (s.1 (a1 + 15) (nx x2)) = (12 : Int32) then
    if zin? y0 4 = true then
    zlet (sI s 1212 (nx y0) x1) fun u2 =>
    f235_178 n x1 u2
    else none
    else if (s.1 (a1 + 15) (nx x2)) = (23 : Int32) then
    zrd 12 (s.2.2 1132 11) fun a3 =>
    zrd 12 (s.2.2 1132 11) fun a4 =>
    if zin? x2 200 = true then
    if zin? (s.1 (a4 + 18) (nx x2)) 1400 = true then
    yb1 (f236 n y0 s) fun v6 u5 =>
    if zin? (s.1 (a3 + 33) (nx (s.1 (a4 + 18) (nx x2)))) 8 = true then
    zlet (sI u5 1207 (nx (s.1 (a3 + 33) (nx (s.1 (a4 + 18) (nx x2))))) v6) fun u7 =>
    f235_178 n x1 u7
    else none
    else none
    else none
    else if zin? (((8 : Int32) * y0) + x1) 32 = true then
    if zin? (((8 : Int32) * y0) + x1) 32 = true then
    zlet (sI s 1213 (nx (((8 : Int32) * y0) + x1)) ((s.1 1213 (nx (((8 : Int32) * y0) + x1))) + (1 : Int32))) fun u8 =>
    f235_178 n x1 u8
    else none
    else none
    else none
def f235 (n : Nat) (x1 : Int32) (s : zσ) : Option zσ :=
    yb1 (f214 n x1 s) fun v2 u1 =>
    if zin? v2 1120 = true then
    zlet ((u1.1 1237 (nx v2))) fun v3 =>
    zrd 12 (u1.2.2 1132 11) fun a4 =>
    if zin? v3 200 = true then
    if (u1.1 (a4 + 17) (nx v3)) = (-1 : Int32) then
    f235_45 n x1 v3 (-1 : Int32) u1
    else zrd 12 (u1.2.2 1132 11) fun a5 =>
    zrd 12 (u1.2.2 1132 11) fun a6 =>
    if zin? v3 200 = true then
    if zin? (u1.1 (a6 + 17) (nx v3)) 1400 = true then
    f235_45 n x1 v3 (u1.1 (a5 + 33) (nx (u1.1 (a6 + 17) (nx v3)))) u1
    else none
    else none
    else none
    else none
def f226_6 (n : Nat) : Nat → Int32 → zσ → Option zσ
  | 0, _, _ => none
  | j + 1, x1, s =>
    if x1 = (-1 : Int32) then
    some s
    else yb1 (f230 n x1 s) fun v2 u1 =>
    if v2 = (0 : Int32) then
    yb1 (f227 n x1 u1) fun v4 u3 =>
    f226_6 n j v4 u3
    else yb0 (f235 n x1 u1) fun u5 =>
    yb1 (f227 n (-1 : Int32) u5) fun v7 u6 =>
    f226_6 n j v7 u6
def f226 (n : Nat) (s : zσ) : Option zσ :=
    yb1 (f227 n (-1 : Int32) s) fun v2 u1 =>
    f226_6 n n v2 u1
def f224_24 (n : Nat) (s : zσ) : Option zσ :=
    yb0 (f226 n s) fun u1 =>
    some u1
def f224 (n : Nat) (x1 : Int32) (s : zσ) : Option zσ :=
    if (x1 - x1 / (2 : Int32) * (2 : Int32)) = (0 : Int32) then
    yb0 (f210 n (x1 / (2 : Int32)) s) fun u3 =>
    f224_24 n u3
    else yb1 (f225 n (x1 / (2 : Int32)) s) fun v2 u1 =>
    f224_24 n u1
def f222_86 (n : Nat) (r5 : Int32 → zσ → Option zσ) (x1 : Int32) (s : zσ) : Option zσ :=
    yb0 (f224 n x1 s) fun u1 =>
    yb1 (f223 n u1) fun v3 u2 =>
    r5 v3 u2
def f222_79 (n : Nat) (r5 : Int32 → zσ → Option zσ) (x1 : Int32) (s : zσ) : Option zσ :=
    if zin? x1 16 = true then
    zlet (sI s 1240 (nx x1) (vp_nar .boolean (0 : Int32))) fun u1 =>
    f222_86 n r5 x1 u1
    else none
def f222_5 (n : Nat) : Nat → Int32 → zσ → Option zσ
  | 0, _, _ => none
  | j + 1, x1, s =>
    if x1 = (-1 : Int32) then
    some s
    else if zin? x1 16 = true then
    if (s.1 1132 20) < (s.1 1241 (nx x1)) then
    some s
    else if zin? x1 16 = true then
    if zin? x1 16 = true then
    zlet ((((s.1 1241 (nx x1)).toInt64) + ((s.1 1242 (nx x1)).toInt64))) fun v1 =>
    if zin? x1 16 = true then
    if (0 : Int32) < (s.1 1242 (nx x1)) then
    if zin? x1 16 = true then
    if ((s.1 1243 (nx x1)).toInt64) < v1 then
    f222_79 n (f222_5 n j) x1 s
    else if (1000000000 : Int64) < v1 then
    f222_79 n (f222_5 n j) x1 s
    else if zin? x1 16 = true then
    zlet (sI s 1241 (nx x1) (v1.toInt32)) fun u2 =>
    f222_86 n (f222_5 n j) x1 u2
    else none
    else none
    else f222_79 n (f222_5 n j) x1 s
    else none
    else none
    else none
    else none
def f222 (n : Nat) (s : zσ) : Option zσ :=
    yb1 (f223 n s) fun v2 u1 =>
    f222_5 n n v2 u1
def f239 (n : Nat) (x1 : Int32) (x2 : Int32) (s : zσ) : Option (Int32 × zσ) :=
    if zin? x1 8 = true then
    if zin? x2 8 = true then
    if (s.1 1226 (nx x1)) = (s.1 1226 (nx x2)) then
    if zin? x1 8 = true then
    if zin? x2 8 = true then
    if (s.1 1227 (nx x1)) < (s.1 1227 (nx x2)) then
    some ((1 : Int32), s)
    else some ((0 : Int32), s)
    else none
    else none
    else if zin? x1 8 = true then
    if zin? x2 8 = true then
    if (s.1 1226 (nx x1)) < (s.1 1226 (nx x2)) then
    some ((1 : Int32), s)
    else some ((0 : Int32), s)
    else none
    else none
    else none
    else none
def f238_92 (n : Nat) (r4 : Int32 → Int32 → zσ → Option (Int32 × zσ)) (r18 : Int32 → Int32 → Int32 → Int32 → zσ → Option (Int32 × zσ)) (x2 : Int32) (x3 : Int32) (x4 : Int32) (x5 : Int32) (s : zσ) : Option (Int32 × zσ) :=
    r18 x2 x3 x4 (x5 + (1 : Int32)) s
def f238_88 (n : Nat) (r4 : Int32 → Int32 → zσ → Option (Int32 × zσ)) (r18 : Int32 → Int32 → Int32 → Int32 → zσ → Option (Int32 × zσ)) (x2 : Int32) (x3 : Int32) (x5 : Int32) (s : zσ) : Option (Int32 × zσ) :=
    f238_92 n r4 r18 x2 x3 x5 x5 s
def f238_47 (n : Nat) (r4 : Int32 → Int32 → zσ → Option (Int32 × zσ)) (r18 : Int32 → Int32 → Int32 → Int32 → zσ → Option (Int32 × zσ)) (x2 : Int32) (x3 : Int32) (x4 : Int32) (x5 : Int32) (y0 : Int32) (s : zσ) : Option (Int32 × zσ) :=
    if zin? x5 8 = true then
    if (s.1 1225 (nx x5)) = (1 : Int32) then
    if y0 = (0 : Int32) then
    f238_92 n r4 r18 x2 x3 x4 x5 s
    else if x5 = x3 then
    f238_92 n r4 r18 x2 x3 x4 x5 s
    else if x4 = (-1 : Int32) then
    f238_88 n r4 r18 x2 x3 x5 s
    else yb1 (f239 n x5 x4 s) fun v2 u1 =>
    if v2 = (0 : Int32) then
    f238_92 n r4 r18 x2 x3 x4 x5 u1
    else f238_88 n r4 r18 x2 x3 x5 u1
    else f238_92 n r4 r18 x2 x3 x4 x5 s
    else none
def f238_42 (n : Nat) (r4 : Int32 → Int32 → zσ → Option (Int32 × zσ)) (r18 : Int32 → Int32 → Int32 → Int32 → zσ → Option (Int32 × zσ)) (x2 : Int32) (x3 : Int32) (x4 : Int32) (x5 : Int32) (s : zσ) : Option (Int32 × zσ) :=
    f238_47 n r4 r18 x2 x3 x4 x5 (1 : Int32) s
def f238_18 (n : Nat) (r4 : Int32 → Int32 → zσ → Option (Int32 × zσ)) : Nat → Int32 → Int32 → Int32 → Int32 → zσ → Option (Int32 × zσ)
  | 0, _, _, _, _, _ => none
  | j + 1, x2, x3, x4, x5, s =>
    yb1 (f209 n s) fun v2 u1 =>
    if x5 < v2 then
    if x3 = (-1 : Int32) then
    f238_42 n r4 (f238_18 n r4 j) x2 x3 x4 x5 u1
    else yb1 (f239 n x3 x5 u1) fun v5 u4 =>
    if v5 = (0 : Int32) then
    f238_47 n r4 (f238_18 n r4 j) x2 x3 x4 x5 (0 : Int32) u4
    else f238_42 n r4 (f238_18 n r4 j) x2 x3 x4 x5 u4
    else if x4 = (-1 : Int32) then
    some (x2, u1)
    else if zin? x2 3 = true then
    zlet (sI u1 1248 (nx x2) x4) fun u3 =>
    r4 (x2 + (1 : Int32)) x4 u3
    else none
def f238_4 (n : Nat) : Nat → Int32 → Int32 → zσ → Option (Int32 × zσ)
  | 0, _, _, _ => none
  | j + 1, x2, x3, s =>
    if x2 < (s.1 1132 19) then
    f238_18 n (f238_4 n j) n x2 x3 (-1 : Int32) (0 : Int32) s
    else some (x2, s)
def f238 (n : Nat) (s : zσ) : Option (Int32 × zσ) :=
    f238_4 n n (0 : Int32) (-1 : Int32) s
def f240_30 (n : Nat) (r4 : Int32 → Int32 → zσ → Option (Int32 × zσ)) (x2 : Int32) (y0 : Int32) (s : zσ) : Option (Int32 × zσ) :=
    r4 y0 (x2 + (1 : Int32)) s
def f240_29 (n : Nat) (r4 : Int32 → Int32 → zσ → Option (Int32 × zσ)) (x2 : Int32) (s : zσ) : Option (Int32 × zσ) :=
    f240_30 n r4 x2 (0 : Int32) s
def f240_4 (n : Nat) : Nat → Int32 → Int32 → zσ → Option (Int32 × zσ)
  | 0, _, _, _ => none
  | j + 1, x1, x2, s =>
    yb1 (f209 n s) fun v2 u1 =>
    if x2 < v2 then
    if x1 = (0 : Int32) then
    f240_29 n (f240_4 n j) x2 u1
    else if zin? x2 8 = true then
    if (u1.1 1225 (nx x2)) = (0 : Int32) then
    f240_30 n (f240_4 n j) x2 (1 : Int32) u1
    else f240_29 n (f240_4 n j) x2 u1
    else none
    else if x1 = 0 ∨ x1 = 1 then
    some (x1, u1)
    else none
def f240 (n : Nat) (s : zσ) : Option (Int32 × zσ) :=
    f240_4 n n (1 : Int32) (0 : Int32) s
def f246_16 (n : Nat) (y0 : Int32) (s : zσ) : Option zσ :=
    zlet (sI s 1132 69 y0) fun u1 =>
    some u1
def f246 (n : Nat) (x1 : Int32) (s : zσ) : Option zσ :=
    if (s.1 1132 69) = (0 : Int32) then
    f246_16 n x1 s
    else f246_16 n (s.1 1132 69) s
def f245 (n : Nat) (x1 : Int64) (s : zσ) : Option (Int64 × zσ) :=
    if x1 = ((x1.toInt32).toInt64) then
    some (x1, s)
    else yb0 (f246 n (5 : Int32) s) fun u1 =>
    some (x1, u1)
def f244_205 (n : Nat) (x2 : Int64) (x4 : Int64) (s : zσ) : Option (Int64 × zσ) :=
    if x4 < x2 then
    some ((1 : Int64), s)
    else some ((0 : Int64), s)
def f244_143 (n : Nat) (x1 : Int32) (x2 : Int64) (x4 : Int64) (s : zσ) : Option (Int64 × zσ) :=
    if x4 = (0 : Int64) then
    yb0 (f246 n (4 : Int32) s) fun u3 =>
    some ((0 : Int64), u3)
    else if x1 = (47 : Int32) then
    if ¬ x4 = 0 then
    yb1 (f245 n (x2 / x4) s) fun v2 u1 =>
    some (v2, u1)
    else none
    else if ¬ x4 = 0 then
    some ((x2 - x2 / x4 * x4), s)
    else none
def f244 (n : Nat) (x1 : Int32) (x2 : Int64) (x4 : Int64) (s : zσ) : Option (Int64 × zσ) :=
    if x1 = (37 : Int32) then
    f244_143 n x1 x2 x4 s
    else if x1 = (42 : Int32) then
    yb1 (f245 n (x2 * x4) s) fun v2 u1 =>
    some (v2, u1)
    else if x1 = (43 : Int32) then
    yb1 (f245 n (x2 + x4) s) fun v4 u3 =>
    some (v4, u3)
    else if x1 = (45 : Int32) then
    yb1 (f245 n (x2 - x4) s) fun v6 u5 =>
    some (v6, u5)
    else if x1 = (47 : Int32) then
    f244_143 n x1 x2 x4 s
    else if x1 = (60 : Int32) then
    if x2 < x4 then
    some ((1 : Int64), s)
    else some ((0 : Int64), s)
    else if x1 = (61 : Int32) then
    if x2 = x4 then
    some ((1 : Int64), s)
    else some ((0 : Int64), s)
    else f244_205 n x2 x4 s
def f249 (n : Nat) (x1 : Int32) (s : zσ) : Option (Int32 × zσ) :=
    if zin? x1 4 = true then
    if (s.1 1208 (nx x1)) = (-1 : Int32) then
    yb0 (f246 n (1 : Int32) s) fun u1 =>
    some ((0 : Int32), u1)
    else if zin? x1 4 = true then
    if zin? (s.1 1208 (nx x1)) 5 = true then
    some ((s.1 1209 (nx (s.1 1208 (nx x1)))), s)
    else none
    else none
    else none
def f248_33 (n : Nat) (x1 : Int32) (x2 : Int64) (s : zσ) : Option (Int32 × zσ) :=
    if (s.1 1132 69) = (0 : Int32) then
    if zin? x1 4 = true then
    some ((((20 : Int32) * (s.1 1208 (nx x1))) + (x2.toInt32)), s)
    else none
    else some ((0 : Int32), s)
def f248_28 (n : Nat) (x1 : Int32) (x2 : Int64) (s : zσ) : Option (Int32 × zσ) :=
    yb0 (f246 n (2 : Int32) s) fun u1 =>
    f248_33 n x1 x2 u1
def f248 (n : Nat) (x1 : Int32) (x2 : Int64) (s : zσ) : Option (Int32 × zσ) :=
    yb1 (f249 n x1 s) fun v2 u1 =>
    if (u1.1 1132 69) = (0 : Int32) then
    if x2 < (0 : Int64) then
    f248_28 n x1 x2 u1
    else if x2 < (v2.toInt64) then
    f248_33 n x1 x2 u1
    else f248_28 n x1 x2 u1
    else f248_33 n x1 x2 u1
def f247 (n : Nat) (x1 : Int32) (x2 : Int64) (s : zσ) : Option (Int32 × zσ) :=
    yb1 (f248 n x1 x2 s) fun v2 u1 =>
    if (u1.1 1132 69) = (0 : Int32) then
    if zin? v2 100 = true then
    some ((u1.1 1210 (nx v2)), u1)
    else none
    else some ((0 : Int32), u1)
def f250 (n : Nat) (x1 : Int32) (x2 : Int32) (s : zσ) : Option (Int32 × zσ) :=
    zrd 12 (s.2.2 1132 11) fun a1 =>
    if zin? x2 1400 = true then
    zlet ((s.1 (a1 + 33) (nx x2))) fun v2 =>
    zrd 12 (s.2.2 1132 11) fun a3 =>
    if zin? x2 1400 = true then
    if (s.1 (a3 + 34) (nx x2)) = (0 : Int32) then
    if zin? v2 8 = true then
    some ((s.1 1207 (nx v2)), s)
    else none
    else yb1 (f218 n x1 s) fun v5 u4 =>
    if zin? (((3 : Int32) * v5) + v2) 3360 = true then
    some ((u4.1 1239 (nx (((3 : Int32) * v5) + v2))), u4)
    else none
    else none
    else none
def f243_267 (n : Nat) (s : zσ) : Option (Int32 × zσ) :=
    if (s.1 1132 69) = (0 : Int32) then
    if zin? (0 : Int32) 420 = true then
    some (((s.2.1 1245 (nx (0 : Int32))).toInt32), s)
    else none
    else some ((0 : Int32), s)
def f243_261 (n : Nat) (r13 : Int32 → Int32 → Int32 → Int32 → zσ → Option (Int32 × zσ)) (x1 : Int32) (x2 : Int32) (x3 : Int32) (x4 : Int32) (s : zσ) : Option (Int32 × zσ) :=
    r13 x1 x2 x3 (x4 + (1 : Int32)) s
def f243_257 (n : Nat) (r13 : Int32 → Int32 → Int32 → Int32 → zσ → Option (Int32 × zσ)) (x1 : Int32) (x2 : Int32) (x3 : Int32) (x4 : Int32) (y0 : Int64) (y1 : Int32) (s : zσ) : Option (Int32 × zσ) :=
    if zin? y1 420 = true then
    zlet (sJ s 1245 (nx y1) y0) fun u1 =>
    f243_261 n r13 x1 x2 (x3 + (1 : Int32)) x4 u1
    else none
def f243_13 (n : Nat) : Nat → Int32 → Int32 → Int32 → Int32 → zσ → Option (Int32 × zσ)
  | 0, _, _, _, _, _ => none
  | j + 1, x1, x2, x3, x4, s =>
    zrd 12 (s.2.2 1132 11) fun a1 =>
    if zin? x2 401 = true then
    if x4 < (s.1 (a1 + 26) (nx x2)) then
    if (s.1 1132 69) = (0 : Int32) then
    zrd 12 (s.2.2 1132 11) fun a2 =>
    if zin? x4 900 = true then
    zlet ((s.1 (a2 + 28) (nx x4))) fun v3 =>
    zrd 12 (s.2.2 1132 11) fun a4 =>
    if zin? x4 900 = true then
    zlet ((s.1 (a4 + 27) (nx x4))) fun v5 =>
    if v5 = (7 : Int32) then
    if zin? ((x3 + (-1 : Int32)) - (1 : Int32)) 420 = true then
    if zin? (x3 + (-1 : Int32)) 420 = true then
    yb1 (f244 n v3 (s.2.1 1245 (nx ((x3 + (-1 : Int32)) - (1 : Int32)))) (s.2.1 1245 (nx (x3 + (-1 : Int32)))) s) fun v20 u19 =>
    if zin? ((x3 + (-1 : Int32)) - (1 : Int32)) 420 = true then
    zlet (sJ u19 1245 (nx ((x3 + (-1 : Int32)) - (1 : Int32))) v20) fun u21 =>
    f243_261 n (f243_13 n j) x1 x2 (x3 + (-1 : Int32)) x4 u21
    else none
    else none
    else none
    else if v5 = (6 : Int32) then
    if zin? (x3 - (1 : Int32)) 420 = true then
    yb1 (f245 n (-(s.2.1 1245 (nx (x3 - (1 : Int32))))) s) fun v17 u16 =>
    if zin? (x3 - (1 : Int32)) 420 = true then
    zlet (sJ u16 1245 (nx (x3 - (1 : Int32))) v17) fun u18 =>
    f243_261 n (f243_13 n j) x1 x2 x3 x4 u18
    else none
    else none
    else if v5 = (2 : Int32) then
    zrd 12 (s.2.2 1132 11) fun a12 =>
    if zin? v3 1400 = true then
    if zin? (x3 - (1 : Int32)) 420 = true then
    yb1 (f247 n (s.1 (a12 + 33) (nx v3)) (s.2.1 1245 (nx (x3 - (1 : Int32)))) s) fun v14 u13 =>
    if zin? (x3 - (1 : Int32)) 420 = true then
    zlet (sJ u13 1245 (nx (x3 - (1 : Int32))) (v14.toInt64)) fun u15 =>
    f243_261 n (f243_13 n j) x1 x2 x3 x4 u15
    else none
    else none
    else none
    else if v5 = (0 : Int32) then
    f243_257 n (f243_13 n j) x1 x2 x3 x4 (v3.toInt64) x3 s
    else if v5 = (1 : Int32) then
    yb1 (f250 n x1 v3 s) fun v11 u10 =>
    f243_257 n (f243_13 n j) x1 x2 x3 x4 (v11.toInt64) x3 u10
    else if v5 = (4 : Int32) then
    f243_257 n (f243_13 n j) x1 x2 x3 x4 ((s.1 1132 20).toInt64) x3 s
    else if v5 = (5 : Int32) then
    zrd 12 (s.2.2 1132 11) fun a9 =>
    if zin? v3 1400 = true then
    if zin? (s.1 (a9 + 33) (nx v3)) 8 = true then
    f243_257 n (f243_13 n j) x1 x2 x3 x4 ((s.1 1225 (nx (s.1 (a9 + 33) (nx v3)))).toInt64) x3 s
    else none
    else none
    else zrd 12 (s.2.2 1132 11) fun a6 =>
    if zin? v3 1400 = true then
    yb1 (f249 n (s.1 (a6 + 33) (nx v3)) s) fun v8 u7 =>
    f243_257 n (f243_13 n j) x1 x2 x3 x4 (v8.toInt64) x3 u7
    else none
    else none
    else none
    else f243_267 n s
    else f243_267 n s
    else none
def f243 (n : Nat) (x1 : Int32) (x2 : Int32) (s : zσ) : Option (Int32 × zσ) :=
    zrd 12 (s.2.2 1132 11) fun a1 =>
    if zin? x2 401 = true then
    zlet ((s.1 (a1 + 25) (nx x2))) fun v2 =>
    f243_13 n n x1 x2 (0 : Int32) v2 s
    else none
def f251_82 (n : Nat) (x1 : Int32) (x4 : Int32) (y0 : Int32) (s : zσ) : Option zσ :=
    if (s.1 1132 69) = (0 : Int32) then
    if zin? y0 100 = true then
    zlet (sI s 1210 (nx y0) x4) fun u1 =>
    yb0 (f237 n x1 u1) fun u2 =>
    some u2
    else none
    else some s
def f251_46 (n : Nat) (x1 : Int32) (x2 : Int32) (x3 : Int32) (y0 : Int32) (s : zσ) : Option zσ :=
    if (s.1 1132 69) = (0 : Int32) then
    zrd 12 (s.2.2 1132 11) fun a1 =>
    zrd 12 (s.2.2 1132 11) fun a2 =>
    if zin? x2 200 = true then
    if zin? (s.1 (a2 + 17) (nx x2)) 1400 = true then
    yb1 (f248 n (s.1 (a1 + 33) (nx (s.1 (a2 + 17) (nx x2)))) (x3.toInt64) s) fun v4 u3 =>
    f251_82 n x1 y0 v4 u3
    else none
    else none
    else f251_82 n x1 y0 (0 : Int32) s
def f251 (n : Nat) (x1 : Int32) (x2 : Int32) (s : zσ) : Option zσ :=
    zrd 12 (s.2.2 1132 11) fun a1 =>
    if zin? ((4 : Int32) * x2) 800 = true then
    yb1 (f243 n x1 (s.1 (a1 + 22) (nx ((4 : Int32) * x2))) s) fun v3 u2 =>
    if (u2.1 1132 69) = (0 : Int32) then
    zrd 12 (u2.2.2 1132 11) fun a4 =>
    if zin? (((4 : Int32) * x2) + (1 : Int32)) 800 = true then
    yb1 (f243 n x1 (u2.1 (a4 + 22) (nx (((4 : Int32) * x2) + (1 : Int32)))) u2) fun v6 u5 =>
    f251_46 n x1 x2 v3 v6 u5
    else none
    else f251_46 n x1 x2 v3 (0 : Int32) u2
    else none
def f252_120 (n : Nat) : Nat → Int32 → Int32 → zσ → Option zσ
  | 0, _, _, _ => none
  | j + 1, x1, x3, s =>
    if x3 < (3 : Int32) then
    yb1 (f214 n x1 s) fun v3 u2 =>
    if zin? x3 3 = true then
    if zin? (((3 : Int32) * v3) + x3) 3360 = true then
    zlet (sI u2 1239 (nx (((3 : Int32) * v3) + x3)) (u2.1 1246 (nx x3))) fun u4 =>
    f252_120 n j x1 (x3 + (1 : Int32)) u4
    else none
    else none
    else yb0 (f213 n (f219 n 4) x1 s) fun u1 =>
    some u1
def f252_80 (n : Nat) (x1 : Int32) (x2 : Int32) (s : zσ) : Option zσ :=
    if (s.1 1132 69) = (0 : Int32) then
    zrd 12 (s.2.2 1132 11) fun a1 =>
    zrd 12 (s.2.2 1132 11) fun a2 =>
    zrd 12 (s.2.2 1132 11) fun a3 =>
    if zin? x2 200 = true then
    if zin? (s.1 (a3 + 18) (nx x2)) 1400 = true then
    if zin? (s.1 (a2 + 33) (nx (s.1 (a3 + 18) (nx x2)))) 6 = true then
    yb0 (f212 n x1 (s.1 (a1 + 10) (nx (s.1 (a2 + 33) (nx (s.1 (a3 + 18) (nx x2)))))) (1 : Int32) s) fun u4 =>
    f252_120 n n x1 (0 : Int32) u4
    else none
    else none
    else none
    else some s
def f252_49 (n : Nat) (r2 : Int32 → Int32 → Int32 → zσ → Option zσ) (x1 : Int32) (x2 : Int32) (x3 : Int32) (y0 : Int32) (y1 : Int32) (s : zσ) : Option zσ :=
    if zin? y1 3 = true then
    zlet (sI s 1246 (nx y1) y0) fun u1 =>
    r2 x1 x2 (x3 + (1 : Int32)) u1
    else none
def f252_2 (n : Nat) : Nat → Int32 → Int32 → Int32 → zσ → Option zσ
  | 0, _, _, _, _ => none
  | j + 1, x1, x2, x3, s =>
    zrd 12 (s.2.2 1132 11) fun a1 =>
    if zin? x2 200 = true then
    if x3 < (s.1 (a1 + 20) (nx x2)) then
    if (s.1 1132 69) = (0 : Int32) then
    zrd 12 (s.2.2 1132 11) fun a3 =>
    if zin? (((4 : Int32) * x2) + x3) 800 = true then
    yb1 (f243 n x1 (s.1 (a3 + 22) (nx (((4 : Int32) * x2) + x3))) s) fun v5 u4 =>
    f252_49 n (f252_2 n j) x1 x2 x3 v5 x3 u4
    else none
    else f252_49 n (f252_2 n j) x1 x2 x3 (0 : Int32) x3 s
    else if (s.1 1132 69) = (0 : Int32) then
    if zin? x1 8 = true then
    if (s.1 1234 (nx x1)) = (8 : Int32) then
    yb0 (f246 n (6 : Int32) s) fun u2 =>
    f252_80 n x1 x2 u2
    else f252_80 n x1 x2 s
    else none
    else f252_80 n x1 x2 s
    else none
def f252 (n : Nat) (x1 : Int32) (x2 : Int32) (s : zσ) : Option zσ :=
    f252_2 n n x1 x2 (0 : Int32) s
def f253_46 (n : Nat) (r28 : Int32 → Int32 → Int32 → zσ → Option zσ) (x1 : Int32) (x3 : Int32) (y0 : Int32) (s : zσ) : Option zσ :=
    r28 x1 x3 y0 s
def f253_28 (n : Nat) : Nat → Int32 → Int32 → Int32 → zσ → Option zσ
  | 0, _, _, _, _ => none
  | j + 1, x1, x3, x4, s =>
    if x4 = (0 : Int32) then
    yb0 (f216 n x1 x3 s) fun u1 =>
    yb0 (f213 n (f219 n 4) x1 u1) fun u2 =>
    some u2
    else yb1 (f215 n x1 s) fun v4 u3 =>
    if v4 = (0 : Int32) then
    f253_46 n (f253_28 n j) x1 x3 (1 : Int32) u3
    else f253_46 n (f253_28 n j) x1 x3 (0 : Int32) u3
def f253 (n : Nat) (x1 : Int32) (x2 : Int32) (s : zσ) : Option zσ :=
    zrd 12 (s.2.2 1132 11) fun a1 =>
    if zin? ((4 : Int32) * x2) 800 = true then
    yb1 (f243 n x1 (s.1 (a1 + 22) (nx ((4 : Int32) * x2))) s) fun v3 u2 =>
    if (u2.1 1132 69) = (0 : Int32) then
    f253_28 n n x1 v3 (1 : Int32) u2
    else some u2
    else none
def f254_50 (n : Nat) (x1 : Int32) (y0 : Int32) (s : zσ) : Option zσ :=
    if y0 = (-1 : Int32) then
    yb0 (f237 n x1 s) fun u3 =>
    some u3
    else yb0 (f212 n x1 y0 (0 : Int32) s) fun u1 =>
    yb0 (f213 n (f219 n 4) x1 u1) fun u2 =>
    some u2
def f254 (n : Nat) (x1 : Int32) (x2 : Int32) (s : zσ) : Option zσ :=
    zrd 12 (s.2.2 1132 11) fun a1 =>
    if zin? ((4 : Int32) * x2) 800 = true then
    yb1 (f243 n x1 (s.1 (a1 + 22) (nx ((4 : Int32) * x2))) s) fun v3 u2 =>
    if (u2.1 1132 69) = (0 : Int32) then
    if v3 = (0 : Int32) then
    zrd 12 (u2.2.2 1132 11) fun a4 =>
    if zin? x2 200 = true then
    f254_50 n x1 (u2.1 (a4 + 24) (nx x2)) u2
    else none
    else zrd 12 (u2.2.2 1132 11) fun a5 =>
    if zin? x2 200 = true then
    f254_50 n x1 (u2.1 (a5 + 23) (nx x2)) u2
    else none
    else some u2
    else none
def f255_258 (n : Nat) (x1 : Int32) (s : zσ) : Option zσ :=
    yb0 (f237 n x1 s) fun u1 =>
    some u1
def f255_257 (n : Nat) (x1 : Int32) (y0 : Int32) (y1 : Int32) (s : zσ) : Option zσ :=
    if zin? y1 4 = true then
    zlet (sI s 1208 (nx y1) y0) fun u1 =>
    f255_258 n x1 u1
    else none
def f255_182 (n : Nat) : Nat → Int32 → Int32 → Int32 → zσ → Option zσ
  | 0, _, _, _, _ => none
  | j + 1, x1, x5, x6, s =>
    if x6 < (20 : Int32) then
    if zin? (((20 : Int32) * x5) + x6) 100 = true then
    zlet (sI s 1210 (nx (((20 : Int32) * x5) + x6)) (0 : Int32)) fun u1 =>
    f255_182 n j x1 x5 (x6 + (1 : Int32)) u1
    else none
    else f255_258 n x1 s
def f255_156 (n : Nat) (r112 : Int32 → Int32 → Int32 → Int32 → zσ → Option zσ) (x1 : Int32) (x3 : Int32) (x4 : Int32) (x5 : Int32) (s : zσ) : Option zσ :=
    r112 x1 x3 x4 (x5 + (1 : Int32)) s
def f255_112 (n : Nat) : Nat → Int32 → Int32 → Int32 → Int32 → zσ → Option zσ
  | 0, _, _, _, _, _ => none
  | j + 1, x1, x3, x4, x5, s =>
    if zin? (0 : Int32) 4 = true then
    if (s.1 1208 (nx (0 : Int32))) = x5 then
    f255_156 n (f255_112 n j) x1 x3 x4 x5 s
    else if zin? (1 : Int32) 4 = true then
    if (s.1 1208 (nx (1 : Int32))) = x5 then
    f255_156 n (f255_112 n j) x1 x3 x4 x5 s
    else if zin? (2 : Int32) 4 = true then
    if (s.1 1208 (nx (2 : Int32))) = x5 then
    f255_156 n (f255_112 n j) x1 x3 x4 x5 s
    else if zin? (3 : Int32) 4 = true then
    if (s.1 1208 (nx (3 : Int32))) = x5 then
    f255_156 n (f255_112 n j) x1 x3 x4 x5 s
    else if zin? x3 4 = true then
    zlet (sI s 1208 (nx x3) x5) fun u1 =>
    if zin? x5 5 = true then
    zlet (sI u1 1209 (nx x5) x4) fun u2 =>
    f255_182 n n x1 x5 (0 : Int32) u2
    else none
    else none
    else none
    else none
    else none
    else none
def f255_84 (n : Nat) (x1 : Int32) (x3 : Int32) (x4 : Int32) (s : zσ) : Option zσ :=
    if (s.1 1132 69) = (0 : Int32) then
    zlet (sI s 1132 28 ((s.1 1132 28) + (1 : Int32))) fun u1 =>
    if zin? x3 4 = true then
    zlet (sI u1 1208 (nx x3) (-1 : Int32)) fun u2 =>
    f255_112 n n x1 x3 x4 (0 : Int32) u2
    else none
    else some s
def f255_79 (n : Nat) (x1 : Int32) (x3 : Int32) (x4 : Int32) (s : zσ) : Option zσ :=
    yb0 (f246 n (3 : Int32) s) fun u1 =>
    f255_84 n x1 x3 x4 u1
def f255 (n : Nat) (x1 : Int32) (x2 : Int32) (s : zσ) : Option zσ :=
    zrd 12 (s.2.2 1132 11) fun a1 =>
    zrd 12 (s.2.2 1132 11) fun a2 =>
    if zin? x2 200 = true then
    if zin? (s.1 (a2 + 17) (nx x2)) 1400 = true then
    zlet ((s.1 (a1 + 33) (nx (s.1 (a2 + 17) (nx x2))))) fun v3 =>
    zrd 12 (s.2.2 1132 11) fun a4 =>
    if zin? x2 200 = true then
    if (s.1 (a4 + 15) (nx x2)) = (7 : Int32) then
    zrd 12 (s.2.2 1132 11) fun a8 =>
    if zin? ((4 : Int32) * x2) 800 = true then
    yb1 (f243 n x1 (s.1 (a8 + 22) (nx ((4 : Int32) * x2))) s) fun v10 u9 =>
    if (u9.1 1132 69) = (0 : Int32) then
    if v10 < (0 : Int32) then
    f255_79 n x1 v3 v10 u9
    else if (20 : Int32) < v10 then
    f255_79 n x1 v3 v10 u9
    else if (u9.1 1132 28) = (4000 : Int32) then
    f255_79 n x1 v3 v10 u9
    else f255_84 n x1 v3 v10 u9
    else f255_84 n x1 v3 v10 u9
    else none
    else zrd 12 (s.2.2 1132 11) fun a5 =>
    if zin? x2 200 = true then
    if (s.1 (a5 + 15) (nx x2)) = (8 : Int32) then
    zrd 12 (s.2.2 1132 11) fun a6 =>
    zrd 12 (s.2.2 1132 11) fun a7 =>
    if zin? x2 200 = true then
    if zin? (s.1 (a7 + 18) (nx x2)) 1400 = true then
    if zin? (s.1 (a6 + 33) (nx (s.1 (a7 + 18) (nx x2)))) 4 = true then
    f255_257 n x1 (s.1 1208 (nx (s.1 (a6 + 33) (nx (s.1 (a7 + 18) (nx x2)))))) v3 s
    else none
    else none
    else none
    else f255_257 n x1 (-1 : Int32) v3 s
    else none
    else none
    else none
    else none
def f257 (n : Nat) (x1 : Int32) (s : zσ) : Option zσ :=
    if zin? x1 8 = true then
    zlet (sI s 1225 (nx x1) (3 : Int32)) fun u1 =>
    if zin? x1 8 = true then
    zlet (sI u1 1228 (nx x1) (u1.1 1132 30)) fun u2 =>
    zlet (sI u2 1132 30 ((u2.1 1132 30) + (1 : Int32))) fun u3 =>
    some u3
    else none
    else none
def f256_133 (n : Nat) (r97 : Int32 → Int32 → Int32 → Int32 → zσ → Option zσ) (x1 : Int32) (x2 : Int32) (x3 : Int32) (x4 : Int32) (y0 : Int32) (y1 : Int32) (y2 : Int32) (s : zσ) : Option zσ :=
    if zin? y2 4 = true then
    zlet (sI s 1211 (nx y2) (y1 + y0)) fun u1 =>
    r97 x1 x2 x3 (x4 + (1 : Int32)) u1
    else none
def f256_97 (n : Nat) : Nat → Int32 → Int32 → Int32 → Int32 → zσ → Option zσ
  | 0, _, _, _, _, _ => none
  | j + 1, x1, x2, x3, x4, s =>
    if x4 < (4 : Int32) then
    if zin? x4 4 = true then
    if x3 = (0 : Int32) then
    yb1 (f232 n x2 x4 s) fun v3 u2 =>
    f256_133 n (f256_97 n j) x1 x2 x3 x4 v3 (s.1 1211 (nx x4)) x4 u2
    else yb1 (f232 n x2 x4 s) fun v5 u4 =>
    f256_133 n (f256_97 n j) x1 x2 x3 x4 (-v5) (s.1 1211 (nx x4)) x4 u4
    else none
    else yb0 (f237 n x1 s) fun u1 =>
    some u1
def f256_88 (n : Nat) (r41 : Int32 → Int32 → Int32 → Int32 → zσ → Option zσ) (x1 : Int32) (x2 : Int32) (x3 : Int32) (x4 : Int32) (s : zσ) : Option zσ :=
    r41 x1 x2 x3 (x4 + (1 : Int32)) s
def f256_41 (n : Nat) : Nat → Int32 → Int32 → Int32 → Int32 → zσ → Option zσ
  | 0, _, _, _, _, _ => none
  | j + 1, x1, x2, x3, x4, s =>
    if x4 < (4 : Int32) then
    if x3 = (0 : Int32) then
    yb1 (f232 n x2 x4 s) fun v2 u1 =>
    if (0 : Int32) < v2 then
    if zin? x4 4 = true then
    yb1 (f232 n x2 x4 u1) fun v4 u3 =>
    if (9 : Int32) < ((u1.1 1211 (nx x4)) + v4) then
    yb0 (f246 n (8 : Int32) u3) fun u5 =>
    some u5
    else f256_88 n (f256_41 n j) x1 x2 x3 x4 u3
    else none
    else f256_88 n (f256_41 n j) x1 x2 x3 x4 u1
    else f256_88 n (f256_41 n j) x1 x2 x3 x4 s
    else f256_97 n n x1 x2 x3 (0 : Int32) s
def f256_38 (n : Nat) (x1 : Int32) (x2 : Int32) (x3 : Int32) (s : zσ) : Option zσ :=
    f256_41 n n x1 x2 x3 (0 : Int32) s
def f256_19 (n : Nat) (x1 : Int32) (x2 : Int32) (y0 : Int32) (s : zσ) : Option zσ :=
    if y0 = (0 : Int32) then
    f256_38 n x1 x2 y0 s
    else yb1 (f231 n x2 s) fun v2 u1 =>
    if v2 = (0 : Int32) then
    yb0 (f257 n x1 u1) fun u3 =>
    some u3
    else f256_38 n x1 x2 y0 u1
def f256 (n : Nat) (x1 : Int32) (x2 : Int32) (s : zσ) : Option zσ :=
    zrd 12 (s.2.2 1132 11) fun a1 =>
    if zin? x2 200 = true then
    if (s.1 (a1 + 15) (nx x2)) = (10 : Int32) then
    f256_19 n x1 x2 (1 : Int32) s
    else f256_19 n x1 x2 (0 : Int32) s
    else none
def f258_251 (n : Nat) (x1 : Int32) (s : zσ) : Option zσ :=
    yb0 (f237 n x1 s) fun u1 =>
    some u1
def f258_178 (n : Nat) (r131 : Int32 → Int32 → Int32 → Int32 → zσ → Option zσ) (x1 : Int32) (x3 : Int32) (x6 : Int32) (y0 : Int32) (s : zσ) : Option zσ :=
    r131 x1 x3 y0 (x6 + (1 : Int32)) s
def f258_177 (n : Nat) (r131 : Int32 → Int32 → Int32 → Int32 → zσ → Option zσ) (x1 : Int32) (x3 : Int32) (x6 : Int32) (s : zσ) : Option zσ :=
    f258_178 n r131 x1 x3 x6 (0 : Int32) s
def f258_173 (n : Nat) (r131 : Int32 → Int32 → Int32 → Int32 → zσ → Option zσ) (x1 : Int32) (x3 : Int32) (x6 : Int32) (s : zσ) : Option zσ :=
    f258_178 n r131 x1 x3 x6 (1 : Int32) s
def f258_131 (n : Nat) : Nat → Int32 → Int32 → Int32 → Int32 → zσ → Option zσ
  | 0, _, _, _, _, _ => none
  | j + 1, x1, x3, x5, x6, s =>
    yb1 (f209 n s) fun v2 u1 =>
    if x6 < v2 then
    if x5 = (0 : Int32) then
    f258_177 n (f258_131 n j) x1 x3 x6 u1
    else yb1 (f234 n x6 (12 : Int32) x3 u1) fun v6 u5 =>
    if v6 = (0 : Int32) then
    f258_173 n (f258_131 n j) x1 x3 x6 u5
    else if zin? x6 8 = true then
    if zin? x1 8 = true then
    if (u5.1 1226 (nx x1)) < (u5.1 1226 (nx x6)) then
    f258_173 n (f258_131 n j) x1 x3 x6 u5
    else f258_177 n (f258_131 n j) x1 x3 x6 u5
    else none
    else none
    else if x5 = (0 : Int32) then
    yb0 (f257 n x1 u1) fun u4 =>
    some u4
    else if zin? (((8 : Int32) * x3) + x1) 32 = true then
    if zin? (((8 : Int32) * x3) + x1) 32 = true then
    zlet (sI u1 1213 (nx (((8 : Int32) * x3) + x1)) ((u1.1 1213 (nx (((8 : Int32) * x3) + x1))) + (1 : Int32))) fun u3 =>
    f258_251 n x1 u3
    else none
    else none
def f258_126 (n : Nat) (x1 : Int32) (x3 : Int32) (y0 : Int32) (s : zσ) : Option zσ :=
    f258_131 n n x1 x3 y0 (0 : Int32) s
def f258_64 (n : Nat) (x1 : Int32) (s : zσ) : Option zσ :=
    yb0 (f257 n x1 s) fun u1 =>
    some u1
def f258 (n : Nat) (x1 : Int32) (x2 : Int32) (s : zσ) : Option zσ :=
    zrd 12 (s.2.2 1132 11) fun a1 =>
    zrd 12 (s.2.2 1132 11) fun a2 =>
    if zin? x2 200 = true then
    if zin? (s.1 (a2 + 17) (nx x2)) 1400 = true then
    zlet ((s.1 (a1 + 33) (nx (s.1 (a2 + 17) (nx x2))))) fun v3 =>
    zrd 12 (s.2.2 1132 11) fun a4 =>
    if zin? x2 200 = true then
    zlet ((s.1 (a4 + 15) (nx x2))) fun v5 =>
    if v5 = (12 : Int32) then
    if zin? v3 4 = true then
    if (s.1 1212 (nx v3)) = (-1 : Int32) then
    yb1 (f233 n v3 s) fun v11 u10 =>
    if v11 = (0 : Int32) then
    if zin? v3 4 = true then
    zlet (sI u10 1212 (nx v3) x1) fun u12 =>
    f258_251 n x1 u12
    else none
    else f258_64 n x1 u10
    else f258_64 n x1 s
    else none
    else if v5 = (13 : Int32) then
    if zin? v3 4 = true then
    if (s.1 1212 (nx v3)) = x1 then
    if zin? v3 4 = true then
    zlet (sI s 1212 (nx v3) (-1 : Int32)) fun u8 =>
    f258_251 n x1 u8
    else none
    else yb0 (f246 n (8 : Int32) s) fun u9 =>
    some u9
    else none
    else if v5 = (14 : Int32) then
    if zin? v3 4 = true then
    if (s.1 1212 (nx v3)) = (-1 : Int32) then
    f258_126 n x1 v3 (1 : Int32) s
    else f258_126 n x1 v3 (0 : Int32) s
    else none
    else if zin? (((8 : Int32) * v3) + x1) 32 = true then
    if (s.1 1213 (nx (((8 : Int32) * v3) + x1))) = (0 : Int32) then
    yb0 (f246 n (8 : Int32) s) fun u7 =>
    some u7
    else if zin? (((8 : Int32) * v3) + x1) 32 = true then
    if zin? (((8 : Int32) * v3) + x1) 32 = true then
    zlet (sI s 1213 (nx (((8 : Int32) * v3) + x1)) ((s.1 1213 (nx (((8 : Int32) * v3) + x1))) - (1 : Int32))) fun u6 =>
    f258_251 n x1 u6
    else none
    else none
    else none
    else none
    else none
    else none
def f259_155 (n : Nat) (x1 : Int32) (s : zσ) : Option zσ :=
    yb0 (f237 n x1 s) fun u1 =>
    some u1
def f259_119 (n : Nat) (x1 : Int32) (x3 : Int32) (x4 : Int32) (s : zσ) : Option zσ :=
    if (s.1 1132 69) = (0 : Int32) then
    if zin? x3 4 = true then
    if zin? (((40 : Int32) * x3) + (s.1 1220 (nx x3))) 160 = true then
    zlet (sI s 1219 (nx (((40 : Int32) * x3) + (s.1 1220 (nx x3)))) x4) fun u1 =>
    if zin? x3 4 = true then
    if zin? x3 4 = true then
    zlet (sI u1 1220 (nx x3) ((u1.1 1220 (nx x3)) + (1 : Int32))) fun u2 =>
    f259_155 n x1 u2
    else none
    else none
    else none
    else none
    else some s
def f259 (n : Nat) (x1 : Int32) (x2 : Int32) (s : zσ) : Option zσ :=
    zrd 12 (s.2.2 1132 11) fun a1 =>
    zrd 12 (s.2.2 1132 11) fun a2 =>
    if zin? x2 200 = true then
    if zin? (s.1 (a2 + 17) (nx x2)) 1400 = true then
    zlet ((s.1 (a1 + 33) (nx (s.1 (a2 + 17) (nx x2))))) fun v3 =>
    zrd 12 (s.2.2 1132 11) fun a4 =>
    if zin? x2 200 = true then
    if (s.1 (a4 + 15) (nx x2)) = (23 : Int32) then
    if zin? v3 4 = true then
    if (s.1 1218 (nx v3)) = (0 : Int32) then
    yb0 (f257 n x1 s) fun u14 =>
    some u14
    else zrd 12 (s.2.2 1132 11) fun a9 =>
    zrd 12 (s.2.2 1132 11) fun a10 =>
    if zin? x2 200 = true then
    if zin? (s.1 (a10 + 18) (nx x2)) 1400 = true then
    yb1 (f236 n v3 s) fun v12 u11 =>
    if zin? (s.1 (a9 + 33) (nx (s.1 (a10 + 18) (nx x2)))) 8 = true then
    zlet (sI u11 1207 (nx (s.1 (a9 + 33) (nx (s.1 (a10 + 18) (nx x2))))) v12) fun u13 =>
    f259_155 n x1 u13
    else none
    else none
    else none
    else none
    else zrd 12 (s.2.2 1132 11) fun a5 =>
    if zin? ((4 : Int32) * x2) 800 = true then
    yb1 (f243 n x1 (s.1 (a5 + 22) (nx ((4 : Int32) * x2))) s) fun v7 u6 =>
    if (u6.1 1132 69) = (0 : Int32) then
    if zin? v3 4 = true then
    if (u6.1 1220 (nx v3)) = (40 : Int32) then
    yb0 (f246 n (8 : Int32) u6) fun u8 =>
    f259_119 n x1 v3 v7 u8
    else f259_119 n x1 v3 v7 u6
    else none
    else f259_119 n x1 v3 v7 u6
    else none
    else none
    else none
    else none
def f262 (n : Nat) (x1 : Int32) (s : zσ) : Option (Int32 × zσ) :=
    if zin? x1 8 = true then
    if (s.1 1225 (nx x1)) = (0 : Int32) then
    zrd 12 (s.2.2 1132 11) fun a1 =>
    if zin? x1 8 = true then
    some ((s.1 (a1 + 8) (nx x1)), s)
    else none
    else if zin? x1 8 = true then
    some ((s.1 1226 (nx x1)), s)
    else none
    else none
def f261_153 (n : Nat) (r109 : Int32 → Int32 → Int32 → zσ → Option zσ) (x1 : Int32) (x2 : Int32) (x3 : Int32) (s : zσ) : Option zσ :=
    r109 x1 x2 (x3 + (1 : Int32)) s
def f261_109 (n : Nat) : Nat → Int32 → Int32 → Int32 → zσ → Option zσ
  | 0, _, _, _, _ => none
  | j + 1, x1, x2, x3, s =>
    if x3 < x2 then
    if zin? x3 16 = true then
    if zin? (s.1 1247 (nx x3)) 16 = true then
    if (s.1 1240 (nx (s.1 1247 (nx x3)))) = (0 : Int32) then
    f261_153 n (f261_109 n j) x1 x2 x3 s
    else if zin? x3 16 = true then
    if zin? (s.1 1247 (nx x3)) 16 = true then
    if (s.1 1244 (nx (s.1 1247 (nx x3)))) = x1 then
    if zin? x3 16 = true then
    yb0 (f224 n (s.1 1247 (nx x3)) s) fun u1 =>
    f261_153 n (f261_109 n j) x1 x2 x3 u1
    else none
    else f261_153 n (f261_109 n j) x1 x2 x3 s
    else none
    else none
    else none
    else none
    else some s
def f261_95 (n : Nat) (r31 : Int32 → Int32 → Int32 → zσ → Option zσ) (r40 : Int32 → Int32 → Int32 → Int32 → zσ → Option zσ) (x1 : Int32) (x2 : Int32) (x3 : Int32) (x4 : Int32) (s : zσ) : Option zσ :=
    r40 x1 x2 x3 (x4 + (1 : Int32)) s
def f261_40 (n : Nat) (r31 : Int32 → Int32 → Int32 → zσ → Option zσ) : Nat → Int32 → Int32 → Int32 → Int32 → zσ → Option zσ
  | 0, _, _, _, _, _ => none
  | j + 1, x1, x2, x3, x4, s =>
    yb1 (f209 n s) fun v2 u1 =>
    if x4 < ((2 : Int32) * v2) then
    if zin? x4 16 = true then
    if (u1.1 1240 (nx x4)) = (0 : Int32) then
    f261_95 n r31 (f261_40 n r31 j) x1 x2 x3 x4 u1
    else if zin? x4 16 = true then
    if (u1.1 1244 (nx x4)) = x1 then
    yb1 (f262 n (x4 / (2 : Int32)) u1) fun v4 u3 =>
    if v4 = x3 then
    if zin? x2 16 = true then
    zlet (sI u3 1247 (nx x2) x4) fun u5 =>
    f261_95 n r31 (f261_40 n r31 j) x1 (x2 + (1 : Int32)) x3 x4 u5
    else none
    else f261_95 n r31 (f261_40 n r31 j) x1 x2 x3 x4 u3
    else f261_95 n r31 (f261_40 n r31 j) x1 x2 x3 x4 u1
    else none
    else none
    else r31 x1 x2 (x3 + (1 : Int32)) u1
def f261_31 (n : Nat) : Nat → Int32 → Int32 → Int32 → zσ → Option zσ
  | 0, _, _, _, _ => none
  | j + 1, x1, x2, x3, s =>
    if (9 : Int32) < x3 then
    f261_109 n n x1 x2 (0 : Int32) s
    else f261_40 n (f261_31 n j) n x1 x2 x3 (0 : Int32) s
def f261 (n : Nat) (x1 : Int32) (s : zσ) : Option zσ :=
    if zin? x1 4 = true then
    if (s.1 1214 (nx x1)) = (0 : Int32) then
    if zin? x1 4 = true then
    zlet (sI s 1215 (nx x1) (vp_nar .boolean (1 : Int32))) fun u2 =>
    some u2
    else none
    else if zin? x1 4 = true then
    if zin? x1 4 = true then
    zlet (sI s 1216 (nx x1) ((s.1 1216 (nx x1)) + (1 : Int32))) fun u1 =>
    f261_31 n n x1 (0 : Int32) (1 : Int32) u1
    else none
    else none
    else none
def f260_210 (n : Nat) (x1 : Int32) (s : zσ) : Option zσ :=
    yb0 (f237 n x1 s) fun u1 =>
    some u1
def f260_111 (n : Nat) (x1 : Int32) (s : zσ) : Option zσ :=
    zlet (sI s 1132 23 ((s.1 1132 23) + (1 : Int32))) fun u1 =>
    yb0 (f237 n x1 u1) fun u2 =>
    some u2
def f260_54 (n : Nat) (y0 : Int32) (s : zσ) : Option zσ :=
    yb0 (f246 n y0 s) fun u1 =>
    some u1
def f260_48 (n : Nat) (s : zσ) : Option zσ :=
    f260_54 n (5 : Int32) s
def f260 (n : Nat) (x1 : Int32) (x2 : Int32) (s : zσ) : Option zσ :=
    zrd 12 (s.2.2 1132 11) fun a1 =>
    if zin? x2 200 = true then
    zlet ((s.1 (a1 + 15) (nx x2))) fun v2 =>
    if v2 = (22 : Int32) then
    zrd 12 (s.2.2 1132 11) fun a15 =>
    if zin? ((4 : Int32) * x2) 800 = true then
    yb1 (f243 n x1 (s.1 (a15 + 22) (nx ((4 : Int32) * x2))) s) fun v17 u16 =>
    if v17 < (1 : Int32) then
    f260_48 n u16
    else if (19 : Int32) < v17 then
    f260_48 n u16
    else f260_54 n v17 u16
    else none
    else if v2 = (28 : Int32) then
    zrd 12 (s.2.2 1132 11) fun a11 =>
    if zin? ((4 : Int32) * x2) 800 = true then
    yb1 (f243 n x1 (s.1 (a11 + 22) (nx ((4 : Int32) * x2))) s) fun v13 u12 =>
    if (u12.1 1132 69) = (0 : Int32) then
    if (u12.1 1132 23) < (200 : Int32) then
    if zin? (u12.1 1132 23) 200 = true then
    zlet (sI u12 1221 (nx (u12.1 1132 23)) v13) fun u14 =>
    f260_111 n x1 u14
    else none
    else f260_111 n x1 u12
    else some u12
    else none
    else zrd 12 (s.2.2 1132 11) fun a3 =>
    zrd 12 (s.2.2 1132 11) fun a4 =>
    if zin? x2 200 = true then
    if zin? (s.1 (a4 + 17) (nx x2)) 1400 = true then
    zlet ((s.1 (a3 + 33) (nx (s.1 (a4 + 17) (nx x2))))) fun v5 =>
    if v2 = (25 : Int32) then
    yb0 (f261 n v5 s) fun u10 =>
    f260_210 n x1 u10
    else if v2 = (27 : Int32) then
    if zin? v5 4 = true then
    zlet (sI s 1214 (nx v5) (vp_nar .boolean (0 : Int32))) fun u9 =>
    f260_210 n x1 u9
    else none
    else if zin? v5 4 = true then
    zlet (sI s 1214 (nx v5) (vp_nar .boolean (1 : Int32))) fun u6 =>
    if zin? v5 4 = true then
    if (u6.1 1215 (nx v5)) = (0 : Int32) then
    f260_210 n x1 u6
    else if zin? v5 4 = true then
    zlet (sI u6 1215 (nx v5) (vp_nar .boolean (0 : Int32))) fun u7 =>
    yb0 (f261 n v5 u7) fun u8 =>
    f260_210 n x1 u8
    else none
    else none
    else none
    else none
    else none
    else none
def f265_25 (n : Nat) (r4 : Int32 → Int32 → zσ → Option (Int32 × zσ)) (x2 : Int32) (y0 : Int32) (y1 : Int32) (s : zσ) : Option (Int32 × zσ) :=
    zlet ((y1 + y0)) fun v1 =>
    r4 v1 (x2 + (1 : Int32)) s
def f265_4 (n : Nat) : Nat → Int32 → Int32 → zσ → Option (Int32 × zσ)
  | 0, _, _, _ => none
  | j + 1, x1, x2, s =>
    if x2 < (16 : Int32) then
    if zin? x2 16 = true then
    if (s.1 1240 (nx x2)) = (0 : Int32) then
    f265_25 n (f265_4 n j) x2 (0 : Int32) x1 s
    else f265_25 n (f265_4 n j) x2 (1 : Int32) x1 s
    else none
    else some (x1, s)
def f265 (n : Nat) (s : zσ) : Option (Int32 × zσ) :=
    f265_4 n n (0 : Int32) (0 : Int32) s
def f264_353 (n : Nat) (x1 : Int32) (y0 : Int32) (y1 : Int32) (s : zσ) : Option zσ :=
    if zin? y1 16 = true then
    zlet (sI s 1244 (nx y1) y0) fun u1 =>
    yb0 (f237 n x1 u1) fun u2 =>
    some u2
    else none
def f264_289 (n : Nat) (x1 : Int32) (x2 : Int32) (x3 : Int32) (x4 : Int32) (x5 : Int64) (x7 : Int32) (x8 : Int32) (s : zσ) : Option zσ :=
    if zin? x3 16 = true then
    zlet (sI s 1240 (nx x3) (vp_nar .boolean (1 : Int32))) fun u1 =>
    if zin? x3 16 = true then
    zlet (sI u1 1241 (nx x3) (x5.toInt32)) fun u2 =>
    if zin? x3 16 = true then
    zlet (sI u2 1242 (nx x3) x7) fun u3 =>
    if zin? x3 16 = true then
    zlet (sI u3 1243 (nx x3) x8) fun u4 =>
    if x4 = (4 : Int32) then
    zrd 12 (u4.2.2 1132 11) fun a5 =>
    zrd 12 (u4.2.2 1132 11) fun a6 =>
    if zin? x2 200 = true then
    if zin? (u4.1 (a6 + 18) (nx x2)) 1400 = true then
    f264_353 n x1 (u4.1 (a5 + 33) (nx (u4.1 (a6 + 18) (nx x2)))) x3 u4
    else none
    else none
    else f264_353 n x1 (-1 : Int32) x3 u4
    else none
    else none
    else none
    else none
def f264_264 (n : Nat) (x1 : Int32) (x2 : Int32) (x3 : Int32) (x4 : Int32) (x5 : Int64) (x7 : Int32) (x8 : Int32) (s : zσ) : Option zσ :=
    if zin? x3 16 = true then
    if (s.1 1240 (nx x3)) = (0 : Int32) then
    yb1 (f265 n s) fun v2 u1 =>
    if v2 = (12 : Int32) then
    yb0 (f246 n (7 : Int32) u1) fun u3 =>
    some u3
    else f264_289 n x1 x2 x3 x4 x5 x7 x8 u1
    else f264_289 n x1 x2 x3 x4 x5 x7 x8 s
    else none
def f264_262 (n : Nat) (x1 : Int32) (x2 : Int32) (x3 : Int32) (x4 : Int32) (x5 : Int64) (x7 : Int32) (y0 : Int32) (s : zσ) : Option zσ :=
    f264_264 n x1 x2 x3 x4 x5 x7 y0 s
def f264_246 (n : Nat) (x1 : Int32) (x2 : Int32) (x3 : Int32) (x4 : Int32) (x5 : Int64) (x11 : Int32) (y0 : Int32) (s : zσ) : Option zσ :=
    if x4 = (3 : Int32) then
    f264_262 n x1 x2 x3 x4 x5 y0 x11 s
    else f264_262 n x1 x2 x3 x4 x5 y0 (2147483647 : Int32) s
def f264_226 (n : Nat) (s : zσ) : Option zσ :=
    yb0 (f246 n (9 : Int32) s) fun u1 =>
    some u1
def f264_201 (n : Nat) (x1 : Int32) (x2 : Int32) (x3 : Int32) (x4 : Int32) (x5 : Int64) (x9 : Int64) (x11 : Int32) (y0 : Int32) (s : zσ) : Option zσ :=
    if y0 = (0 : Int32) then
    f264_226 n s
    else if (1000000000 : Int64) < x5 then
    f264_226 n s
    else if (x11.toInt64) < x5 then
    f264_226 n s
    else if x4 = (3 : Int32) then
    f264_246 n x1 x2 x3 x4 x5 x11 (x9.toInt32) s
    else f264_246 n x1 x2 x3 x4 x5 x11 (0 : Int32) s
def f264_162 (n : Nat) (x1 : Int32) (x2 : Int32) (x3 : Int32) (x4 : Int32) (x9 : Int64) (x11 : Int32) (y0 : Int64) (s : zσ) : Option zσ :=
    if x4 = (1 : Int32) then
    if x9 < ((s.1 1132 20).toInt64) then
    f264_201 n x1 x2 x3 x4 y0 x9 x11 (0 : Int32) s
    else f264_201 n x1 x2 x3 x4 y0 x9 x11 (1 : Int32) s
    else if x9 < (1 : Int64) then
    f264_201 n x1 x2 x3 x4 y0 x9 x11 (0 : Int32) s
    else f264_201 n x1 x2 x3 x4 y0 x9 x11 (1 : Int32) s
def f264_133 (n : Nat) (x1 : Int32) (x2 : Int32) (x3 : Int32) (x4 : Int32) (x9 : Int64) (y0 : Int32) (s : zσ) : Option zσ :=
    if (s.1 1132 69) = (0 : Int32) then
    if x4 = (1 : Int32) then
    f264_162 n x1 x2 x3 x4 x9 y0 x9 s
    else f264_162 n x1 x2 x3 x4 x9 y0 (((s.1 1132 20).toInt64) + x9) s
    else some s
def f264_130 (n : Nat) (x1 : Int32) (x2 : Int32) (x3 : Int32) (x4 : Int32) (x9 : Int64) (s : zσ) : Option zσ :=
    f264_133 n x1 x2 x3 x4 x9 (2147483647 : Int32) s
def f264_38 (n : Nat) (x1 : Int32) (x2 : Int32) (y0 : Int32) (y1 : Int32) (s : zσ) : Option zσ :=
    zlet ((y1 + y0)) fun v1 =>
    zrd 12 (s.2.2 1132 11) fun a2 =>
    if zin? x2 200 = true then
    zlet ((s.1 (a2 + 19) (nx x2))) fun v3 =>
    if v3 = (4 : Int32) then
    f264_264 n x1 x2 v1 v3 (-2000000000 : Int64) (0 : Int32) (2147483647 : Int32) s
    else zrd 12 (s.2.2 1132 11) fun a4 =>
    if zin? ((4 : Int32) * x2) 800 = true then
    yb1 (f243 n x1 (s.1 (a4 + 22) (nx ((4 : Int32) * x2))) s) fun v6 u5 =>
    zlet ((v6.toInt64)) fun v7 =>
    if (u5.1 1132 69) = (0 : Int32) then
    zrd 12 (u5.2.2 1132 11) fun a8 =>
    if zin? x2 200 = true then
    if (u5.1 (a8 + 20) (nx x2)) = (2 : Int32) then
    zrd 12 (u5.2.2 1132 11) fun a9 =>
    if zin? (((4 : Int32) * x2) + (1 : Int32)) 800 = true then
    yb1 (f243 n x1 (u5.1 (a9 + 22) (nx (((4 : Int32) * x2) + (1 : Int32)))) u5) fun v11 u10 =>
    f264_133 n x1 x2 v1 v3 v7 v11 u10
    else none
    else f264_130 n x1 x2 v1 v3 v7 u5
    else none
    else f264_130 n x1 x2 v1 v3 v7 u5
    else none
    else none
def f264 (n : Nat) (x1 : Int32) (x2 : Int32) (s : zσ) : Option zσ :=
    zrd 12 (s.2.2 1132 11) fun a1 =>
    zrd 12 (s.2.2 1132 11) fun a2 =>
    if zin? x2 200 = true then
    if zin? (s.1 (a2 + 17) (nx x2)) 1400 = true then
    zrd 12 (s.2.2 1132 11) fun a3 =>
    if zin? x2 200 = true then
    if (s.1 (a3 + 15) (nx x2)) = (17 : Int32) then
    f264_38 n x1 x2 (1 : Int32) ((2 : Int32) * (s.1 (a1 + 33) (nx (s.1 (a2 + 17) (nx x2))))) s
    else f264_38 n x1 x2 (0 : Int32) ((2 : Int32) * (s.1 (a1 + 33) (nx (s.1 (a2 + 17) (nx x2))))) s
    else none
    else none
    else none
def f263_314 (n : Nat) (x1 : Int32) (s : zσ) : Option zσ :=
    if (s.1 1132 69) = (0 : Int32) then
    yb0 (f237 n x1 s) fun u1 =>
    some u1
    else some s
def f263_289 (n : Nat) (x1 : Int32) (s : zσ) : Option zσ :=
    f263_314 n x1 s
def f263_273 (n : Nat) (x1 : Int32) (x4 : Int32) (x5 : Int32) (s : zσ) : Option zσ :=
    if (s.1 1132 69) = (0 : Int32) then
    if zin? x4 8 = true then
    zlet (sI s 1226 (nx x4) x5) fun u1 =>
    f263_289 n x1 u1
    else none
    else f263_289 n x1 s
def f263_250 (n : Nat) (x1 : Int32) (x4 : Int32) (x5 : Int32) (s : zσ) : Option zσ :=
    if (s.1 1132 69) = (0 : Int32) then
    if zin? x4 8 = true then
    if (s.1 1225 (nx x4)) = (0 : Int32) then
    yb0 (f246 n (7 : Int32) s) fun u1 =>
    f263_273 n x1 x4 x5 u1
    else f263_273 n x1 x4 x5 s
    else none
    else f263_273 n x1 x4 x5 s
def f263_245 (n : Nat) (x1 : Int32) (x4 : Int32) (x5 : Int32) (s : zσ) : Option zσ :=
    yb0 (f246 n (5 : Int32) s) fun u1 =>
    f263_250 n x1 x4 x5 u1
def f263_197 (n : Nat) (x1 : Int32) (y0 : Int32) (y1 : Int32) (s : zσ) : Option zσ :=
    if zin? y1 8 = true then
    zlet (sI s 1225 (nx y1) y0) fun u1 =>
    f263_314 n x1 u1
    else none
def f263_175 (n : Nat) (x1 : Int32) (x4 : Int32) (s : zσ) : Option zσ :=
    if zin? x4 8 = true then
    if (s.1 1225 (nx x4)) = (1 : Int32) then
    f263_197 n x1 (2 : Int32) x4 s
    else f263_197 n x1 (4 : Int32) x4 s
    else none
def f263_63 (n : Nat) (x1 : Int32) (x2 : Int32) (x3 : Int32) (y0 : Int32) (s : zσ) : Option zσ :=
    if x3 = (16 : Int32) then
    yb0 (f210 n y0 s) fun u12 =>
    f263_314 n x1 u12
    else if x3 = (17 : Int32) then
    yb1 (f225 n y0 s) fun v10 u9 =>
    if v10 = (0 : Int32) then
    yb0 (f246 n (7 : Int32) u9) fun u11 =>
    f263_314 n x1 u11
    else f263_314 n x1 u9
    else if x3 = (18 : Int32) then
    if zin? y0 8 = true then
    if (s.1 1225 (nx y0)) = (0 : Int32) then
    yb0 (f246 n (7 : Int32) s) fun u8 =>
    some u8
    else yb0 (f219 n 4 y0 s) fun u7 =>
    if y0 = x1 then
    some u7
    else f263_314 n x1 u7
    else none
    else if x3 = (19 : Int32) then
    if zin? y0 8 = true then
    if (s.1 1225 (nx y0)) = (1 : Int32) then
    f263_175 n x1 y0 s
    else if zin? y0 8 = true then
    if (s.1 1225 (nx y0)) = (3 : Int32) then
    f263_175 n x1 y0 s
    else yb0 (f246 n (7 : Int32) s) fun u6 =>
    some u6
    else none
    else none
    else if x3 = (20 : Int32) then
    zrd 12 (s.2.2 1132 11) fun a3 =>
    if zin? ((4 : Int32) * x2) 800 = true then
    yb1 (f243 n x1 (s.1 (a3 + 22) (nx ((4 : Int32) * x2))) s) fun v5 u4 =>
    if (u4.1 1132 69) = (0 : Int32) then
    if v5 < (1 : Int32) then
    f263_245 n x1 y0 v5 u4
    else if (9 : Int32) < v5 then
    f263_245 n x1 y0 v5 u4
    else f263_250 n x1 y0 v5 u4
    else f263_250 n x1 y0 v5 u4
    else none
    else if zin? ((2 : Int32) * y0) 16 = true then
    zlet (sI s 1240 (nx ((2 : Int32) * y0)) (vp_nar .boolean (0 : Int32))) fun u1 =>
    if zin? (((2 : Int32) * y0) + (1 : Int32)) 16 = true then
    zlet (sI u1 1240 (nx (((2 : Int32) * y0) + (1 : Int32))) (vp_nar .boolean (0 : Int32))) fun u2 =>
    f263_314 n x1 u2
    else none
    else none
def f263 (n : Nat) (x1 : Int32) (x2 : Int32) (s : zσ) : Option zσ :=
    zrd 12 (s.2.2 1132 11) fun a1 =>
    if zin? x2 200 = true then
    zlet ((s.1 (a1 + 15) (nx x2))) fun v2 =>
    zrd 12 (s.2.2 1132 11) fun a3 =>
    if zin? x2 200 = true then
    if (s.1 (a3 + 19) (nx x2)) = (0 : Int32) then
    zrd 12 (s.2.2 1132 11) fun a4 =>
    if zin? x2 200 = true then
    if (s.1 (a4 + 17) (nx x2)) = (-1 : Int32) then
    f263_63 n x1 x2 v2 x1 s
    else zrd 12 (s.2.2 1132 11) fun a5 =>
    zrd 12 (s.2.2 1132 11) fun a6 =>
    if zin? x2 200 = true then
    if zin? (s.1 (a6 + 17) (nx x2)) 1400 = true then
    f263_63 n x1 x2 v2 (s.1 (a5 + 33) (nx (s.1 (a6 + 17) (nx x2)))) s
    else none
    else none
    else none
    else yb0 (f264 n x1 x2 s) fun u7 =>
    some u7
    else none
    else none
def f242_264 (n : Nat) (x1 : Int32) (x2 : Int32) (s : zσ) : Option zσ :=
    yb0 (f263 n x1 x2 s) fun u1 =>
    some u1
def f242_255 (n : Nat) (x1 : Int32) (x2 : Int32) (s : zσ) : Option zσ :=
    yb0 (f260 n x1 x2 s) fun u1 =>
    some u1
def f242_246 (n : Nat) (x1 : Int32) (x2 : Int32) (s : zσ) : Option zσ :=
    yb0 (f259 n x1 x2 s) fun u1 =>
    some u1
def f242_237 (n : Nat) (x1 : Int32) (x2 : Int32) (s : zσ) : Option zσ :=
    yb0 (f258 n x1 x2 s) fun u1 =>
    some u1
def f242_228 (n : Nat) (x1 : Int32) (x2 : Int32) (s : zσ) : Option zσ :=
    yb0 (f256 n x1 x2 s) fun u1 =>
    some u1
def f242_219 (n : Nat) (x1 : Int32) (x2 : Int32) (s : zσ) : Option zσ :=
    yb0 (f255 n x1 x2 s) fun u1 =>
    some u1
def f242_210 (n : Nat) (x1 : Int32) (x2 : Int32) (s : zσ) : Option zσ :=
    yb0 (f254 n x1 x2 s) fun u1 =>
    some u1
def f242 (n : Nat) (x1 : Int32) (x2 : Int32) (s : zσ) : Option zσ :=
    zrd 12 (s.2.2 1132 11) fun a1 =>
    if zin? x2 200 = true then
    if (s.1 (a1 + 15) (nx x2)) = (1 : Int32) then
    zrd 12 (s.2.2 1132 11) fun a2 =>
    if zin? ((4 : Int32) * x2) 800 = true then
    yb1 (f243 n x1 (s.1 (a2 + 22) (nx ((4 : Int32) * x2))) s) fun v4 u3 =>
    if (u3.1 1132 69) = (0 : Int32) then
    zrd 12 (u3.2.2 1132 11) fun a5 =>
    if zin? x2 200 = true then
    yb0 (f217 n x1 (u3.1 (a5 + 17) (nx x2)) v4 u3) fun u6 =>
    yb0 (f237 n x1 u6) fun u7 =>
    some u7
    else none
    else some u3
    else none
    else if (s.1 (a1 + 15) (nx x2)) = (2 : Int32) then
    yb0 (f251 n x1 x2 s) fun u8 =>
    some u8
    else if (s.1 (a1 + 15) (nx x2)) = (3 : Int32) then
    yb0 (f252 n x1 x2 s) fun u9 =>
    some u9
    else if (s.1 (a1 + 15) (nx x2)) = (4 : Int32) then
    yb0 (f253 n x1 x2 s) fun u10 =>
    some u10
    else if (s.1 (a1 + 15) (nx x2)) = (5 : Int32) then
    f242_210 n x1 x2 s
    else if (s.1 (a1 + 15) (nx x2)) = (6 : Int32) then
    f242_210 n x1 x2 s
    else if (s.1 (a1 + 15) (nx x2)) = (7 : Int32) then
    f242_219 n x1 x2 s
    else if (s.1 (a1 + 15) (nx x2)) = (8 : Int32) then
    f242_219 n x1 x2 s
    else if (s.1 (a1 + 15) (nx x2)) = (9 : Int32) then
    f242_219 n x1 x2 s
    else if (s.1 (a1 + 15) (nx x2)) = (10 : Int32) then
    f242_228 n x1 x2 s
    else if (s.1 (a1 + 15) (nx x2)) = (11 : Int32) then
    f242_228 n x1 x2 s
    else if (s.1 (a1 + 15) (nx x2)) = (12 : Int32) then
    f242_237 n x1 x2 s
    else if (s.1 (a1 + 15) (nx x2)) = (13 : Int32) then
    f242_237 n x1 x2 s
    else if (s.1 (a1 + 15) (nx x2)) = (14 : Int32) then
    f242_237 n x1 x2 s
    else if (s.1 (a1 + 15) (nx x2)) = (15 : Int32) then
    f242_237 n x1 x2 s
    else if (s.1 (a1 + 15) (nx x2)) = (22 : Int32) then
    f242_255 n x1 x2 s
    else if (s.1 (a1 + 15) (nx x2)) = (23 : Int32) then
    f242_246 n x1 x2 s
    else if (s.1 (a1 + 15) (nx x2)) = (24 : Int32) then
    f242_246 n x1 x2 s
    else if (s.1 (a1 + 15) (nx x2)) = (25 : Int32) then
    f242_255 n x1 x2 s
    else if (s.1 (a1 + 15) (nx x2)) = (26 : Int32) then
    f242_255 n x1 x2 s
    else if (s.1 (a1 + 15) (nx x2)) = (27 : Int32) then
    f242_255 n x1 x2 s
    else if (s.1 (a1 + 15) (nx x2)) = (28 : Int32) then
    f242_255 n x1 x2 s
    else f242_264 n x1 x2 s
    else none
def f266_174 (n : Nat) : Nat → Int32 → Int32 → Int32 → zσ → Option zσ
  | 0, _, _, _, _ => none
  | j + 1, x1, x4, x6, s =>
    if zin? x1 8 = true then
    if (x4 + (1 : Int32)) < (s.1 1235 (nx x1)) then
    yb1 (f215 n x1 s) fun v6 u5 =>
    f266_174 n j x1 x4 x6 u5
    else if zin? (((140 : Int32) * x1) + x4) 1120 = true then
    zlet (sI s 1236 (nx (((140 : Int32) * x1) + x4)) x6) fun u1 =>
    zrd 12 (u1.2.2 1132 11) fun a2 =>
    if zin? x6 2000 = true then
    if zin? (((140 : Int32) * x1) + x4) 1120 = true then
    zlet (sI u1 1237 (nx (((140 : Int32) * x1) + x4)) (u1.1 (a2 + 13) (nx x6))) fun u3 =>
    yb0 (f213 n (f219 n 4) x1 u3) fun u4 =>
    some u4
    else none
    else none
    else none
    else none
def f266_156 (n : Nat) (r86 : Int32 → Int32 → Int32 → zσ → Option zσ) (x1 : Int32) (x3 : Int32) (x4 : Int32) (y0 : Int32) (s : zσ) : Option zσ :=
    if y0 = (-1 : Int32) then
    r86 x1 x3 (x4 + (-1 : Int32)) s
    else zlet (sI s 1132 25 ((s.1 1132 25) + (1 : Int32))) fun u1 =>
    f266_174 n n x1 x4 y0 u1
def f266_86 (n : Nat) : Nat → Int32 → Int32 → Int32 → zσ → Option zσ
  | 0, _, _, _, _ => none
  | j + 1, x1, x3, x4, s =>
    if x4 < (0 : Int32) then
    yb0 (f219 n 4 x1 s) fun u1 =>
    some u1
    else if zin? (((140 : Int32) * x1) + x4) 1120 = true then
    zlet ((s.1 1236 (nx (((140 : Int32) * x1) + x4)))) fun v2 =>
    zrd 12 (s.2.2 1132 11) fun a3 =>
    if zin? (((20 : Int32) * v2) + x3) 40000 = true then
    if (s.1 (a3 + 14) (nx (((20 : Int32) * v2) + x3))) = (-1 : Int32) then
    zrd 12 (s.2.2 1132 11) fun a4 =>
    if zin? ((20 : Int32) * v2) 40000 = true then
    f266_156 n (f266_86 n j) x1 x3 x4 (s.1 (a4 + 14) (nx ((20 : Int32) * v2))) s
    else none
    else zrd 12 (s.2.2 1132 11) fun a5 =>
    if zin? (((20 : Int32) * v2) + x3) 40000 = true then
    f266_156 n (f266_86 n j) x1 x3 x4 (s.1 (a5 + 14) (nx (((20 : Int32) * v2) + x3))) s
    else none
    else none
    else none
def f266_49 (n : Nat) (x1 : Int32) (x3 : Int32) (s : zσ) : Option zσ :=
    zlet (sI s 1132 24 ((s.1 1132 24) + (1 : Int32))) fun u1 =>
    zlet (sI u1 1132 29 ((u1.1 1132 29) + (1 : Int32))) fun u2 =>
    if zin? x1 8 = true then
    zlet (sI u2 1233 (nx x1) x3) fun u3 =>
    if zin? x1 8 = true then
    zlet (((u3.1 1235 (nx x1)) - (1 : Int32))) fun v4 =>
    f266_86 n n x1 x3 v4 u3
    else none
    else none
def f266 (n : Nat) (x1 : Int32) (x2 : Int32) (s : zσ) : Option zσ :=
    zlet ((s.1 1132 69)) fun v1 =>
    zlet (sI s 1132 69 (0 : Int32)) fun u2 =>
    if (u2.1 1132 24) < (100 : Int32) then
    if zin? (u2.1 1132 24) 100 = true then
    zlet (sI u2 1222 (nx (u2.1 1132 24)) x1) fun u3 =>
    if zin? (u3.1 1132 24) 100 = true then
    zlet (sI u3 1223 (nx (u3.1 1132 24)) v1) fun u4 =>
    if zin? (u4.1 1132 24) 100 = true then
    zlet (sI u4 1224 (nx (u4.1 1132 24)) x2) fun u5 =>
    f266_49 n x1 v1 u5
    else none
    else none
    else none
    else f266_49 n x1 v1 u2
def f241_45 (n : Nat) (s : zσ) : Option zσ :=
    yb0 (f226 n s) fun u1 =>
    some u1
def f241 (n : Nat) (x1 : Int32) (s : zσ) : Option zσ :=
    yb1 (f214 n x1 s) fun v2 u1 =>
    if zin? v2 1120 = true then
    zlet ((u1.1 1237 (nx v2))) fun v3 =>
    zlet (sI u1 1132 22 ((u1.1 1132 22) + (1 : Int32))) fun u4 =>
    zlet (sI u4 1132 69 (0 : Int32)) fun u5 =>
    yb0 (f242 n x1 v3 u5) fun u6 =>
    if (u6.1 1132 69) = (0 : Int32) then
    f241_45 n u6
    else yb0 (f266 n x1 v3 u6) fun u7 =>
    f241_45 n u7
    else none
def f221_153 (n : Nat) (r27 : Int32 → Int32 → zσ → Option (Int32 × zσ)) (x1 : Int32) (x2 : Int32) (s : zσ) : Option (Int32 × zσ) :=
    zlet (sI s 1132 21 ((s.1 1132 21) + (1 : Int32))) fun u1 =>
    r27 x1 (x2 + (1 : Int32)) u1
def f221_137 (n : Nat) (r27 : Int32 → Int32 → zσ → Option (Int32 × zσ)) (r104 : Int32 → Int32 → Int32 → Int32 → zσ → Option (Int32 × zσ)) (x1 : Int32) (x2 : Int32) (x3 : Int32) (x4 : Int32) (s : zσ) : Option (Int32 × zσ) :=
    r104 x1 x2 x3 (x4 + (1 : Int32)) s
def f221_104 (n : Nat) (r27 : Int32 → Int32 → zσ → Option (Int32 × zσ)) : Nat → Int32 → Int32 → Int32 → Int32 → zσ → Option (Int32 × zσ)
  | 0, _, _, _, _, _ => none
  | j + 1, x1, x2, x3, x4, s =>
    if x4 < x3 then
    if zin? x4 3 = true then
    if zin? (s.1 1248 (nx x4)) 8 = true then
    if (s.1 1225 (nx (s.1 1248 (nx x4)))) = (1 : Int32) then
    if zin? x4 3 = true then
    yb0 (f241 n (s.1 1248 (nx x4)) s) fun u2 =>
    f221_137 n r27 (f221_104 n r27 j) x1 x2 x3 x4 u2
    else none
    else f221_137 n r27 (f221_104 n r27 j) x1 x2 x3 x4 s
    else none
    else none
    else zlet (sI s 1132 20 ((s.1 1132 20) + (1 : Int32))) fun u1 =>
    f221_153 n r27 x1 x2 u1
def f221_27 (n : Nat) : Nat → Int32 → Int32 → zσ → Option (Int32 × zσ)
  | 0, _, _, _ => none
  | j + 1, x1, x2, s =>
    if x2 < x1 then
    if (s.1 1132 29) < (4000 : Int32) then
    yb0 (f222 n s) fun u1 =>
    yb1 (f238 n u1) fun v3 u2 =>
    if v3 = (0 : Int32) then
    yb1 (f223 n u2) fun v5 u4 =>
    if v5 = (-1 : Int32) then
    yb1 (f240 n u4) fun v8 u7 =>
    if v8 = (0 : Int32) then
    some ((0 : Int32), u7)
    else some ((2 : Int32), u7)
    else if zin? v5 16 = true then
    zlet (sI u4 1132 20 (u4.1 1241 (nx v5))) fun u6 =>
    f221_153 n (f221_27 n j) x1 x2 u6
    else none
    else f221_104 n (f221_27 n j) n x1 x2 v3 (0 : Int32) u2
    else some ((-4 : Int32), s)
    else some ((1 : Int32), s)
def f221 (n : Nat) (x1 : Int32) (s : zσ) : Option (Int32 × zσ) :=
    if x1 < (1 : Int32) then
    some ((-2 : Int32), s)
    else if (500 : Int32) < x1 then
    some ((-2 : Int32), s)
    else if (s.1 1132 17) = (0 : Int32) then
    some ((-3 : Int32), s)
    else f221_27 n n x1 (0 : Int32) s
def f267 (n : Nat) (x1 : Int32) (s : zσ) : Option (Int32 × zσ) :=
    if (s.1 1132 17) = (0 : Int32) then
    some ((-3 : Int32), s)
    else if x1 < (0 : Int32) then
    some ((-1 : Int32), s)
    else zrd 12 (s.2.2 1132 11) fun a1 =>
    if zin? (4 : Int32) 9 = true then
    if x1 < (s.1 (a1 + 4) (nx (4 : Int32))) then
    if zin? x1 4 = true then
    zlet ((s.1 1214 (nx x1))) fun v2 =>
    yb0 (f261 n x1 s) fun u3 =>
    if v2 = (0 : Int32) then
    some ((0 : Int32), u3)
    else some ((1 : Int32), u3)
    else none
    else some ((-1 : Int32), s)
    else none
def f268 (n : Nat) (x1 : Int32) (x2 : Int32) (s : zσ) : Option (Int32 × zσ) :=
    if (s.1 1132 17) = (0 : Int32) then
    some ((-3 : Int32), s)
    else if x1 < (0 : Int32) then
    some ((-1 : Int32), s)
    else zrd 12 (s.2.2 1132 11) fun a1 =>
    if zin? (5 : Int32) 9 = true then
    if x1 < (s.1 (a1 + 4) (nx (5 : Int32))) then
    if zin? x1 4 = true then
    if (s.1 1218 (nx x1)) = (20 : Int32) then
    some ((-4 : Int32), s)
    else if zin? x1 4 = true then
    if zin? (((20 : Int32) * x1) + (s.1 1218 (nx x1))) 80 = true then
    zlet (sI s 1217 (nx (((20 : Int32) * x1) + (s.1 1218 (nx x1)))) x2) fun u2 =>
    if zin? x1 4 = true then
    if zin? x1 4 = true then
    zlet (sI u2 1218 (nx x1) ((u2.1 1218 (nx x1)) + (1 : Int32))) fun u3 =>
    yb0 (f226 n u3) fun u4 =>
    if zin? x1 4 = true then
    some ((u4.1 1218 (nx x1)), u4)
    else none
    else none
    else none
    else none
    else none
    else none
    else some ((-1 : Int32), s)
    else none
def f270 (n : Nat) (x1 : Int32) (s : zσ) : Option (Int32 × zσ) :=
    if x1 < (0 : Int32) then
    some ((0 : Int32), s)
    else yb1 (f209 n s) fun v2 u1 =>
    if x1 < v2 then
    some ((1 : Int32), u1)
    else some ((0 : Int32), u1)
def f269 (n : Nat) (x1 : Int32) (x2 : Int32) (s : zσ) : Option (Int32 × zσ) :=
    if (s.1 1132 17) = (0 : Int32) then
    some ((-3 : Int32), s)
    else yb1 (f270 n x1 s) fun v2 u1 =>
    if v2 = (0 : Int32) then
    some ((-1 : Int32), u1)
    else if x2 = (0 : Int32) then
    if zin? x1 8 = true then
    some ((u1.1 1225 (nx x1)), u1)
    else none
    else if x2 = (1 : Int32) then
    if zin? x1 8 = true then
    some ((u1.1 1226 (nx x1)), u1)
    else none
    else if x2 = (2 : Int32) then
    if zin? x1 8 = true then
    if (u1.1 1235 (nx x1)) = (0 : Int32) then
    some ((-1 : Int32), u1)
    else yb1 (f214 n x1 u1) fun v4 u3 =>
    if zin? v4 1120 = true then
    some ((u3.1 1237 (nx v4)), u3)
    else none
    else none
    else if x2 = (3 : Int32) then
    if zin? x1 8 = true then
    some ((u1.1 1229 (nx x1)), u1)
    else none
    else if x2 = (4 : Int32) then
    if zin? x1 8 = true then
    some ((u1.1 1230 (nx x1)), u1)
    else none
    else if x2 = (5 : Int32) then
    if zin? x1 8 = true then
    some ((u1.1 1231 (nx x1)), u1)
    else none
    else if x2 = (6 : Int32) then
    if zin? x1 8 = true then
    some ((u1.1 1232 (nx x1)), u1)
    else none
    else if x2 = (7 : Int32) then
    if zin? x1 8 = true then
    some ((u1.1 1233 (nx x1)), u1)
    else none
    else if x2 = (8 : Int32) then
    if zin? x1 8 = true then
    some ((u1.1 1234 (nx x1)), u1)
    else none
    else some ((-2 : Int32), u1)
def f271_24 (n : Nat) (s : zσ) : Option (Int32 × zσ) :=
    some ((0 : Int32), s)
def f271 (n : Nat) (x1 : Int32) (s : zσ) : Option (Int32 × zσ) :=
    if (s.1 1132 17) = (0 : Int32) then
    f271_24 n s
    else if x1 < (0 : Int32) then
    f271_24 n s
    else zrd 12 (s.2.2 1132 11) fun a1 =>
    if zin? (0 : Int32) 9 = true then
    if x1 < (s.1 (a1 + 4) (nx (0 : Int32))) then
    if zin? x1 8 = true then
    some ((s.1 1207 (nx x1)), s)
    else none
    else f271_24 n s
    else none
def f272_102 (n : Nat) (s : zσ) : Option (Int32 × zσ) :=
    some ((0 : Int32), s)
def f272_29 (n : Nat) (x1 : Int32) (x2 : Int32) (y0 : Int32) (s : zσ) : Option (Int32 × zσ) :=
    if x2 = (-1 : Int32) then
    if y0 = (0 : Int32) then
    some ((0 : Int32), s)
    else if zin? x1 4 = true then
    if (s.1 1208 (nx x1)) = (-1 : Int32) then
    some ((-1 : Int32), s)
    else if zin? x1 4 = true then
    if zin? (s.1 1208 (nx x1)) 5 = true then
    some ((s.1 1209 (nx (s.1 1208 (nx x1)))), s)
    else none
    else none
    else none
    else if y0 = (0 : Int32) then
    f272_102 n s
    else if zin? x1 4 = true then
    if (s.1 1208 (nx x1)) = (-1 : Int32) then
    f272_102 n s
    else if x2 < (0 : Int32) then
    f272_102 n s
    else if zin? x1 4 = true then
    if zin? (s.1 1208 (nx x1)) 5 = true then
    if x2 < (s.1 1209 (nx (s.1 1208 (nx x1)))) then
    if zin? x1 4 = true then
    if zin? (((20 : Int32) * (s.1 1208 (nx x1))) + x2) 100 = true then
    some ((s.1 1210 (nx (((20 : Int32) * (s.1 1208 (nx x1))) + x2))), s)
    else none
    else none
    else f272_102 n s
    else none
    else none
    else none
def f272_28 (n : Nat) (x1 : Int32) (x2 : Int32) (s : zσ) : Option (Int32 × zσ) :=
    f272_29 n x1 x2 (0 : Int32) s
def f272 (n : Nat) (x1 : Int32) (x2 : Int32) (s : zσ) : Option (Int32 × zσ) :=
    if (s.1 1132 17) = (0 : Int32) then
    f272_28 n x1 x2 s
    else if x1 < (0 : Int32) then
    f272_28 n x1 x2 s
    else zrd 12 (s.2.2 1132 11) fun a1 =>
    if zin? (1 : Int32) 9 = true then
    if x1 < (s.1 (a1 + 4) (nx (1 : Int32))) then
    f272_29 n x1 x2 (1 : Int32) s
    else f272_28 n x1 x2 s
    else none
def f273 (n : Nat) (x1 : Int32) (x2 : Int32) (s : zσ) : Option (Int32 × zσ) :=
    if (s.1 1132 17) = (0 : Int32) then
    some ((-3 : Int32), s)
    else if x1 < (0 : Int32) then
    some ((-1 : Int32), s)
    else zrd 12 (s.2.2 1132 11) fun a1 =>
    if zin? (1 : Int32) 9 = true then
    if x1 < (s.1 (a1 + 4) (nx (1 : Int32))) then
    if x2 < (0 : Int32) then
    some ((-1 : Int32), s)
    else zrd 12 (s.2.2 1132 11) fun a2 =>
    if zin? (1 : Int32) 9 = true then
    if x2 < (s.1 (a2 + 4) (nx (1 : Int32))) then
    if zin? x1 4 = true then
    if zin? x2 4 = true then
    if (s.1 1208 (nx x1)) = (s.1 1208 (nx x2)) then
    some ((1 : Int32), s)
    else some ((0 : Int32), s)
    else none
    else none
    else some ((-1 : Int32), s)
    else none
    else some ((-1 : Int32), s)
    else none
def f274_29 (n : Nat) (s : zσ) : Option (Int32 × zσ) :=
    some ((-1 : Int32), s)
def f274 (n : Nat) (x1 : Int32) (s : zσ) : Option (Int32 × zσ) :=
    if (s.1 1132 17) = (0 : Int32) then
    some ((-3 : Int32), s)
    else if x1 < (0 : Int32) then
    f274_29 n s
    else zrd 12 (s.2.2 1132 11) fun a1 =>
    if zin? (2 : Int32) 9 = true then
    if x1 < (s.1 (a1 + 4) (nx (2 : Int32))) then
    if zin? x1 4 = true then
    some ((s.1 1211 (nx x1)), s)
    else none
    else f274_29 n s
    else none
def f275 (n : Nat) (x1 : Int32) (x2 : Int32) (s : zσ) : Option (Int32 × zσ) :=
    if (s.1 1132 17) = (0 : Int32) then
    some ((-3 : Int32), s)
    else if x1 < (0 : Int32) then
    some ((-1 : Int32), s)
    else zrd 12 (s.2.2 1132 11) fun a1 =>
    if zin? (3 : Int32) 9 = true then
    if x1 < (s.1 (a1 + 4) (nx (3 : Int32))) then
    if x2 = (0 : Int32) then
    if zin? x1 4 = true then
    some ((s.1 1212 (nx x1)), s)
    else none
    else if x2 = (1 : Int32) then
    yb1 (f233 n x1 s) fun v5 u4 =>
    some (v5, u4)
    else if x2 < (2 : Int32) then
    some ((-2 : Int32), s)
    else yb1 (f209 n s) fun v3 u2 =>
    if x2 < ((2 : Int32) + v3) then
    if zin? ((((8 : Int32) * x1) + x2) - (2 : Int32)) 32 = true then
    some ((u2.1 1213 (nx ((((8 : Int32) * x1) + x2) - (2 : Int32)))), u2)
    else none
    else some ((-2 : Int32), u2)
    else some ((-1 : Int32), s)
    else none
def f276 (n : Nat) (x1 : Int32) (x2 : Int32) (s : zσ) : Option (Int32 × zσ) :=
    if (s.1 1132 17) = (0 : Int32) then
    some ((-3 : Int32), s)
    else if x1 < (0 : Int32) then
    some ((-1 : Int32), s)
    else zrd 12 (s.2.2 1132 11) fun a1 =>
    if zin? (4 : Int32) 9 = true then
    if x1 < (s.1 (a1 + 4) (nx (4 : Int32))) then
    if x2 = (0 : Int32) then
    if zin? x1 4 = true then
    if (s.1 1214 (nx x1)) = (0 : Int32) then
    some ((0 : Int32), s)
    else some ((1 : Int32), s)
    else none
    else if x2 = (1 : Int32) then
    if zin? x1 4 = true then
    if (s.1 1215 (nx x1)) = (0 : Int32) then
    some ((0 : Int32), s)
    else some ((1 : Int32), s)
    else none
    else if x2 = (2 : Int32) then
    if zin? x1 4 = true then
    some ((s.1 1216 (nx x1)), s)
    else none
    else some ((-2 : Int32), s)
    else some ((-1 : Int32), s)
    else none
def f277_67 (n : Nat) (s : zσ) : Option (Int32 × zσ) :=
    some ((0 : Int32), s)
def f277_30 (n : Nat) (x1 : Int32) (x2 : Int32) (y0 : Int32) (s : zσ) : Option (Int32 × zσ) :=
    if y0 = (0 : Int32) then
    some ((0 : Int32), s)
    else if x2 = (-1 : Int32) then
    if zin? x1 4 = true then
    some ((s.1 1220 (nx x1)), s)
    else none
    else if x2 < (0 : Int32) then
    f277_67 n s
    else if zin? x1 4 = true then
    if x2 < (s.1 1220 (nx x1)) then
    if zin? (((40 : Int32) * x1) + x2) 160 = true then
    some ((s.1 1219 (nx (((40 : Int32) * x1) + x2))), s)
    else none
    else f277_67 n s
    else none
def f277_29 (n : Nat) (x1 : Int32) (x2 : Int32) (s : zσ) : Option (Int32 × zσ) :=
    f277_30 n x1 x2 (0 : Int32) s
def f277 (n : Nat) (x1 : Int32) (x2 : Int32) (s : zσ) : Option (Int32 × zσ) :=
    if (s.1 1132 17) = (0 : Int32) then
    f277_29 n x1 x2 s
    else if x1 < (0 : Int32) then
    f277_29 n x1 x2 s
    else zrd 12 (s.2.2 1132 11) fun a1 =>
    if zin? (6 : Int32) 9 = true then
    if x1 < (s.1 (a1 + 4) (nx (6 : Int32))) then
    f277_30 n x1 x2 (1 : Int32) s
    else f277_29 n x1 x2 s
    else none
def f279_91 (n : Nat) (x3 : Int32) (x4 : Int32) (y0 : Int32) (s : zσ) : Option (Int32 × zσ) :=
    if y0 = (0 : Int32) then
    some ((0 : Int32), s)
    else zrd 12 (s.2.2 1132 11) fun a1 =>
    zrd 12 (s.2.2 1132 11) fun a2 =>
    if zin? x4 200 = true then
    if zin? (s.1 (a2 + 17) (nx x4)) 1400 = true then
    if (s.1 (a1 + 33) (nx (s.1 (a2 + 17) (nx x4)))) = x3 then
    some ((1 : Int32), s)
    else some ((0 : Int32), s)
    else none
    else none
def f279_71 (n : Nat) (x3 : Int32) (x4 : Int32) (s : zσ) : Option (Int32 × zσ) :=
    f279_91 n x3 x4 (1 : Int32) s
def f279 (n : Nat) (x1 : Int32) (x2 : Int32) (x3 : Int32) (s : zσ) : Option (Int32 × zσ) :=
    yb1 (f214 n x1 s) fun v2 u1 =>
    if zin? v2 1120 = true then
    zlet ((u1.1 1237 (nx v2))) fun v3 =>
    zrd 12 (u1.2.2 1132 11) fun a4 =>
    if zin? v3 200 = true then
    zlet ((u1.1 (a4 + 15) (nx v3))) fun v5 =>
    if x2 = (2 : Int32) then
    if v5 = (10 : Int32) then
    yb1 (f232 n v3 x3 u1) fun v7 u6 =>
    if (0 : Int32) < v7 then
    some ((1 : Int32), u6)
    else some ((0 : Int32), u6)
    else some ((0 : Int32), u1)
    else if x2 = (3 : Int32) then
    if v5 = (12 : Int32) then
    f279_71 n x3 v3 u1
    else if v5 = (14 : Int32) then
    f279_71 n x3 v3 u1
    else f279_91 n x3 v3 (0 : Int32) u1
    else if v5 = (23 : Int32) then
    f279_91 n x3 v3 (1 : Int32) u1
    else f279_91 n x3 v3 (0 : Int32) u1
    else none
    else none
def f278_85 (n : Nat) (r57 : Int32 → Int32 → Int32 → Int32 → zσ → Option (Int32 × zσ)) (x1 : Int32) (x2 : Int32) (x4 : Int32) (x5 : Int32) (s : zσ) : Option (Int32 × zσ) :=
    yb1 (f227 n x5 s) fun v2 u1 =>
    r57 x1 x2 x4 v2 u1
def f278_57 (n : Nat) : Nat → Int32 → Int32 → Int32 → Int32 → zσ → Option (Int32 × zσ)
  | 0, _, _, _, _, _ => none
  | j + 1, x1, x2, x4, x5, s =>
    if x5 = (-1 : Int32) then
    some ((-1 : Int32), s)
    else yb1 (f279 n x5 x1 x2 s) fun v2 u1 =>
    if v2 = (0 : Int32) then
    f278_85 n (f278_57 n j) x1 x2 x4 x5 u1
    else if x4 = (0 : Int32) then
    some (x5, u1)
    else f278_85 n (f278_57 n j) x1 x2 (x4 + (-1 : Int32)) x5 u1
def f278_28 (n : Nat) (x1 : Int32) (x2 : Int32) (x3 : Int32) (s : zσ) : Option (Int32 × zσ) :=
    if x2 < (0 : Int32) then
    some ((-1 : Int32), s)
    else zrd 12 (s.2.2 1132 11) fun a1 =>
    if zin? x1 9 = true then
    if x2 < (s.1 (a1 + 4) (nx x1)) then
    yb1 (f227 n (-1 : Int32) s) fun v3 u2 =>
    f278_57 n n x1 x2 x3 v3 u2
    else some ((-1 : Int32), s)
    else none
def f278 (n : Nat) (x1 : Int32) (x2 : Int32) (x3 : Int32) (s : zσ) : Option (Int32 × zσ) :=
    if (s.1 1132 17) = (0 : Int32) then
    some ((-3 : Int32), s)
    else if x1 = (2 : Int32) then
    f278_28 n x1 x2 x3 s
    else if x1 = (3 : Int32) then
    f278_28 n x1 x2 x3 s
    else if x1 = (5 : Int32) then
    f278_28 n x1 x2 x3 s
    else some ((-2 : Int32), s)
def f280 (n : Nat) (x1 : Int32) (x2 : Int32) (x3 : Int32) (s : zσ) : Option (Int32 × zσ) :=
    if (s.1 1132 17) = (0 : Int32) then
    some ((-3 : Int32), s)
    else yb1 (f270 n x1 s) fun v2 u1 =>
    if v2 = (0 : Int32) then
    some ((-1 : Int32), u1)
    else if x2 < (0 : Int32) then
    some ((-2 : Int32), u1)
    else if (1 : Int32) < x2 then
    some ((-2 : Int32), u1)
    else if x3 < (0 : Int32) then
    some ((-2 : Int32), u1)
    else if (3 : Int32) < x3 then
    some ((-2 : Int32), u1)
    else zlet ((((2 : Int32) * x1) + x2)) fun v3 =>
    if x3 = (0 : Int32) then
    if zin? v3 16 = true then
    if (u1.1 1240 (nx v3)) = (0 : Int32) then
    some ((-1 : Int32), u1)
    else if zin? v3 16 = true then
    some ((u1.1 1241 (nx v3)), u1)
    else none
    else none
    else if x3 = (1 : Int32) then
    if zin? v3 16 = true then
    if (u1.1 1240 (nx v3)) = (0 : Int32) then
    some ((0 : Int32), u1)
    else if zin? v3 16 = true then
    some ((u1.1 1242 (nx v3)), u1)
    else none
    else none
    else if x3 = (2 : Int32) then
    if zin? v3 16 = true then
    if (u1.1 1240 (nx v3)) = (0 : Int32) then
    some ((2147483647 : Int32), u1)
    else if zin? v3 16 = true then
    some ((u1.1 1243 (nx v3)), u1)
    else none
    else none
    else if zin? v3 16 = true then
    if (u1.1 1240 (nx v3)) = (0 : Int32) then
    some ((-1 : Int32), u1)
    else if zin? v3 16 = true then
    some ((u1.1 1244 (nx v3)), u1)
    else none
    else none
def f282_151 (n : Nat) (r103 : Int32 → Int32 → Int32 → Int32 → zσ → Option (Int32 × zσ)) (x2 : Int32) (x3 : Int32) (x5 : Int32) (y0 : Int32) (y1 : Int32) (s : zσ) : Option (Int32 × zσ) :=
    zlet ((y1 ||| y0)) fun v1 =>
    r103 x2 x3 v1 (x5 + (1 : Int32)) s
def f282_103 (n : Nat) : Nat → Int32 → Int32 → Int32 → Int32 → zσ → Option (Int32 × zσ)
  | 0, _, _, _, _, _ => none
  | j + 1, x2, x3, x4, x5, s =>
    yb1 (f209 n s) fun v2 u1 =>
    if x5 < v2 then
    zrd 12 (u1.2.2 1132 11) fun a3 =>
    if zin? x2 200 = true then
    if (u1.1 (a3 + 15) (nx x2)) = (12 : Int32) then
    if zin? (((8 : Int32) * x3) + x5) 32 = true then
    if (0 : Int32) < (u1.1 1213 (nx (((8 : Int32) * x3) + x5))) then
    f282_151 n (f282_103 n j) x2 x3 x5 ((1 : Int32) <<< (x5 &&& 31)) x4 u1
    else f282_151 n (f282_103 n j) x2 x3 x5 (0 : Int32) x4 u1
    else none
    else some (x4, u1)
    else none
    else some (x4, u1)
def f282_98 (n : Nat) (x2 : Int32) (x3 : Int32) (y0 : Int32) (s : zσ) : Option (Int32 × zσ) :=
    f282_103 n n x2 x3 y0 (0 : Int32) s
def f282_58 (n : Nat) (x2 : Int32) (s : zσ) : Option (Int32 × zσ) :=
    zrd 12 (s.2.2 1132 11) fun a1 =>
    zrd 12 (s.2.2 1132 11) fun a2 =>
    if zin? x2 200 = true then
    if zin? (s.1 (a2 + 17) (nx x2)) 1400 = true then
    zlet ((s.1 (a1 + 33) (nx (s.1 (a2 + 17) (nx x2))))) fun v3 =>
    if zin? v3 4 = true then
    if (s.1 1212 (nx v3)) = (-1 : Int32) then
    f282_98 n x2 v3 (0 : Int32) s
    else if zin? v3 4 = true then
    f282_98 n x2 v3 ((1 : Int32) <<< ((s.1 1212 (nx v3)) &&& 31)) s
    else none
    else none
    else none
    else none
def f282_22 (n : Nat) (y0 : Int32) (s : zσ) : Option (Int32 × zσ) :=
    if y0 = (-1 : Int32) then
    some ((0 : Int32), s)
    else zrd 12 (s.2.2 1132 11) fun a1 =>
    if zin? y0 200 = true then
    if (s.1 (a1 + 15) (nx y0)) = (12 : Int32) then
    f282_58 n y0 s
    else zrd 12 (s.2.2 1132 11) fun a2 =>
    if zin? y0 200 = true then
    if (s.1 (a2 + 15) (nx y0)) = (14 : Int32) then
    f282_58 n y0 s
    else some ((0 : Int32), s)
    else none
    else none
def f282 (n : Nat) (x1 : Int32) (s : zσ) : Option (Int32 × zσ) :=
    yb1 (f228 n x1 s) fun v2 u1 =>
    if v2 = (0 : Int32) then
    f282_22 n (-1 : Int32) u1
    else yb1 (f214 n x1 u1) fun v4 u3 =>
    if zin? v4 1120 = true then
    f282_22 n (u3.1 1237 (nx v4)) u3
    else none
def f281_108 (n : Nat) (r14 : Int32 → Int32 → zσ → Option (Int32 × zσ)) (x2 : Int32) (x3 : Int32) (s : zσ) : Option (Int32 × zσ) :=
    r14 x2 (x3 + (1 : Int32)) s
def f281_74 (n : Nat) (r14 : Int32 → Int32 → zσ → Option (Int32 × zσ)) (r32 : Int32 → Int32 → Int32 → Int32 → zσ → Option (Int32 × zσ)) (r42 : Int32 → Int32 → Int32 → Int32 → Int32 → zσ → Option (Int32 × zσ)) (x2 : Int32) (x3 : Int32) (x5 : Int32) (x6 : Int32) (y0 : Int32) (y1 : Int32) (s : zσ) : Option (Int32 × zσ) :=
    zlet ((y1 ||| y0)) fun v1 =>
    r42 x2 x3 v1 x5 (x6 + (1 : Int32)) s
def f281_42 (n : Nat) (r14 : Int32 → Int32 → zσ → Option (Int32 × zσ)) (r32 : Int32 → Int32 → Int32 → Int32 → zσ → Option (Int32 × zσ)) : Nat → Int32 → Int32 → Int32 → Int32 → Int32 → zσ → Option (Int32 × zσ)
  | 0, _, _, _, _, _, _ => none
  | j + 1, x2, x3, x4, x5, x6, s =>
    yb1 (f209 n s) fun v2 u1 =>
    if x6 < v2 then
    if ((x4 >>> (x6 &&& 31)) &&& (1 : Int32)) = (1 : Int32) then
    yb1 (f282 n x6 u1) fun v4 u3 =>
    f281_74 n r14 r32 (f281_42 n r14 r32 j) x2 x3 x5 x6 v4 x4 u3
    else f281_74 n r14 r32 (f281_42 n r14 r32 j) x2 x3 x5 x6 (0 : Int32) x4 u1
    else r32 x2 x3 x4 (x5 + (1 : Int32)) u1
def f281_32 (n : Nat) (r14 : Int32 → Int32 → zσ → Option (Int32 × zσ)) : Nat → Int32 → Int32 → Int32 → Int32 → zσ → Option (Int32 × zσ)
  | 0, _, _, _, _, _ => none
  | j + 1, x2, x3, x4, x5, s =>
    if x5 < (8 : Int32) then
    f281_42 n r14 (f281_32 n r14 j) n x2 x3 x4 x5 (0 : Int32) s
    else if ((x4 >>> (x3 &&& 31)) &&& (1 : Int32)) = (1 : Int32) then
    if x2 = (0 : Int32) then
    some (x3, s)
    else f281_108 n r14 (x2 + (-1 : Int32)) x3 s
    else f281_108 n r14 x2 x3 s
def f281_14 (n : Nat) : Nat → Int32 → Int32 → zσ → Option (Int32 × zσ)
  | 0, _, _, _ => none
  | j + 1, x2, x3, s =>
    yb1 (f209 n s) fun v2 u1 =>
    if x3 < v2 then
    yb1 (f282 n x3 u1) fun v4 u3 =>
    f281_32 n (f281_14 n j) n x2 x3 v4 (0 : Int32) u3
    else some ((-1 : Int32), u1)
def f281 (n : Nat) (x1 : Int32) (s : zσ) : Option (Int32 × zσ) :=
    if (s.1 1132 17) = (0 : Int32) then
    some ((-3 : Int32), s)
    else f281_14 n n x1 (0 : Int32) s
def f283_26 (n : Nat) (s : zσ) : Option (Int32 × zσ) :=
    some ((0 : Int32), s)
def f283 (n : Nat) (x1 : Int32) (s : zσ) : Option (Int32 × zσ) :=
    if (s.1 1132 17) = (0 : Int32) then
    f283_26 n s
    else if x1 < (0 : Int32) then
    f283_26 n s
    else if x1 < (s.1 1132 23) then
    if x1 < (200 : Int32) then
    if zin? x1 200 = true then
    some ((s.1 1221 (nx x1)), s)
    else none
    else f283_26 n s
    else f283_26 n s
def f284 (n : Nat) (x1 : Int32) (x2 : Int32) (s : zσ) : Option (Int32 × zσ) :=
    if (s.1 1132 17) = (0 : Int32) then
    some ((-1 : Int32), s)
    else if x1 < (0 : Int32) then
    some ((-1 : Int32), s)
    else if x1 < (s.1 1132 24) then
    if x1 < (100 : Int32) then
    if x2 = (0 : Int32) then
    if zin? x1 100 = true then
    some ((s.1 1222 (nx x1)), s)
    else none
    else if x2 = (1 : Int32) then
    if zin? x1 100 = true then
    some ((s.1 1223 (nx x1)), s)
    else none
    else if x2 = (2 : Int32) then
    if zin? x1 100 = true then
    some ((s.1 1224 (nx x1)), s)
    else none
    else some ((-1 : Int32), s)
    else some ((-1 : Int32), s)
    else some ((-1 : Int32), s)
def f285 (n : Nat) (x1 : Int32) (s : zσ) : Option (Int32 × zσ) :=
    if (s.1 1132 17) = (0 : Int32) then
    some ((-3 : Int32), s)
    else if x1 = (0 : Int32) then
    some ((s.1 1132 20), s)
    else if x1 = (1 : Int32) then
    some ((s.1 1132 21), s)
    else if x1 = (2 : Int32) then
    some ((s.1 1132 22), s)
    else if x1 = (3 : Int32) then
    some ((s.1 1132 23), s)
    else if x1 = (4 : Int32) then
    some ((s.1 1132 24), s)
    else if x1 = (5 : Int32) then
    some ((s.1 1132 25), s)
    else if x1 = (6 : Int32) then
    yb1 (f265 n s) fun v2 u1 =>
    some (v2, u1)
    else if x1 = (7 : Int32) then
    yb1 (f220 n s) fun v4 u3 =>
    some (v4, u3)
    else if x1 = (8 : Int32) then
    some ((s.1 1132 26), s)
    else if x1 = (9 : Int32) then
    some ((s.1 1132 27), s)
    else some ((-2 : Int32), s)
