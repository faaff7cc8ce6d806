/-! THE RELATION of the class's state s and the reference's t.
Ghosts of a text: G 0 0 how many statements, G 0 1 how many blocks; G 6 k how many of sort k; of a statement: G 1 its block, G 8 the next one (0: none, else it and 1), G 10 the reference's number of its kind; of a block: G 2 its kind (0 task, 1 proc, 2 if, 3 while, 4 reaction), G 3 its owner, G 4 its level (1 .. 12), G 5 its routine (a task, 8 and a proc), G 7 the block that it stands for (itself, of a reaction the one around it that is none), G 9 the first statement (0: none); G 11 (20 b + w) the reaction of block b to w (0: none); G 12 how many parameters a proc has; G 13 the reference's kind of a code; G 14, G 15 the blocks of tasks and procs. -/
section ZREL
/-- the class's kind of a statement, by the reference's -/
def zkd (k : Nat) : Nat := [0, 1, 91, 149, 150, 151, 152, 154, 155, 156, 159, 160, 161, 162, 163, 164, 167, 168, 153, 169, 170, 171, 158, 165, 166, 172, 173, 174, 157].getD k 0
/-- the counts, the names -/
def tN (G : Nat → Nat → Nat) (x y : Nat) (s t : zσ) : Prop :=
  (∀ k, k < 9 → s.1 (x + 11) k = nI (G 6 k) ∧ t.1 (y + 4) k = nI (G 6 k) ∧ G 6 k ≤ 8) ∧
  (G 6 1 ≤ 4 ∧ G 6 2 ≤ 4 ∧ G 6 3 ≤ 4 ∧ G 6 4 ≤ 4 ∧ G 6 5 ≤ 4 ∧ G 6 6 ≤ 4 ∧ G 6 7 ≤ 6) ∧
  (s.1 (x + 19) 9 = nI (G 0 0) ∧ t.1 y 16 = nI (G 0 0) ∧ G 0 0 ≤ 200 ∧ s.1 (x + 19) 10 = t.1 y 27 ∧ G 0 1 ≤ 700) ∧
  (∃ N, N ≤ 60 ∧ t.1 y 0 = nI N ∧ (∀ k, k < N → ∃ c i, c < 9 ∧ i < G 6 c ∧ t.1 (y + 2) k = nI c ∧ t.1 (y + 3) k = nI i ∧ s.2.1 (x + 2 + c) i = t.2.1 (y + 1) k) ∧ (∀ c i, c < 9 → i < G 6 c → ∃ k, k < N ∧ t.1 (y + 2) k = nI c ∧ t.1 (y + 3) k = nI i ∧ s.2.1 (x + 2 + c) i = t.2.1 (y + 1) k) ∧ (∀ k j, k < N → j < N → t.2.1 (y + 1) k = t.2.1 (y + 1) j → k = j))
/-- how vars, semas, tasks and procs begin -/
def tD (G : Nat → Nat → Nat) (x y : Nat) (s t : zσ) : Prop :=
  (∀ k, k < G 6 0 → s.1 (x + 12) k = t.1 (y + 5) k) ∧
  (∀ k, k < 4 → (∃ v, v ≤ 9 ∧ s.1 (x + 13) k = nI v) ∧ (∃ v, v < 2 ^ 31 ∧ t.1 (y + 6) k = nI v) ∧ (k < G 6 2 → s.1 (x + 13) k = t.1 (y + 6) k)) ∧
  (∀ k, k < G 6 8 → (∃ p, 1 ≤ p ∧ p ≤ 9 ∧ s.1 (x + 14) k = nI p ∧ t.1 (y + 8) k = nI p) ∧ (s.1 (x + 15) k = t.1 (y + 9) k ∧ (s.1 (x + 15) k = 0 ∨ s.1 (x + 15) k = 1)) ∧ (G 14 k < G 0 1 ∧ s.1 (x + 16) k = nI (G 14 k) ∧ t.1 (y + 7) k = nI (G 14 k) ∧ G 2 (G 14 k) = 0 ∧ G 3 (G 14 k) = k)) ∧
  (∀ k, k < G 6 7 → G 12 k ≤ 3 ∧ G 15 k < G 0 1 ∧ s.1 (x + 17) k = nI (G 15 k) ∧ t.1 (y + 10) k = nI (G 15 k) ∧ G 2 (G 15 k) = 1 ∧ G 3 (G 15 k) = k)
/-- the chain of the reactions of a block -/
def cR (x : Nat) (s : zσ) : Int32 → List Nat → Prop
  | v, [] => v = -1
  | v, r :: l => v = nI r ∧ r < 700 ∧ cR x s (s.1 (x + 34) r) l
/-- the blocks -/
def tB (G : Nat → Nat → Nat) (x y : Nat) (s t : zσ) : Prop := ∀ b, b < G 0 1 →
  (s.1 (x + 30) b = nI (G 2 b) ∧ G 2 b ≤ 4 ∧ s.1 (x + 31) b = nI (G 3 b) ∧ 1 ≤ G 4 b ∧ G 4 b ≤ 12) ∧
  ((G 9 b = 0 ∧ s.1 (x + 32) b = -1 ∧ t.1 (y + 13) b = -1) ∨ (∃ r, G 9 b = r + 1 ∧ r < G 0 0 ∧ G 1 r = b ∧ s.1 (x + 32) b = nI r ∧ t.1 (y + 13) b = nI r)) ∧
  (G 2 b = 0 → G 3 b < G 6 8 ∧ G 5 b = G 3 b ∧ G 7 b = b ∧ G 14 (G 3 b) = b) ∧
  (G 2 b = 1 → G 3 b < G 6 7 ∧ G 5 b = 8 + G 3 b ∧ G 7 b = b ∧ G 15 (G 3 b) = b) ∧
  (G 2 b = 2 ∨ G 2 b = 3 → G 3 b < G 0 0 ∧ G 4 b = G 4 (G 1 (G 3 b)) + 1 ∧ G 5 b = G 5 (G 1 (G 3 b)) ∧ G 7 b = b ∧ G 10 (G 3 b) = G 2 b + 3) ∧
  (G 2 b = 4 → G 3 b < G 0 1 ∧ G 4 b = G 4 (G 3 b) + 1 ∧ G 5 b = G 5 (G 3 b) ∧ G 7 b = G 7 (G 3 b)) ∧
  (G 7 b < G 0 1 ∧ G 2 (G 7 b) ≠ 4 ∧ G 5 (G 7 b) = G 5 b ∧ G 4 (G 7 b) ≤ G 4 b) ∧
  (∀ w, w < 20 → (G 11 (20 * b + w) = 0 ∧ t.1 (y + 14) (20 * b + w) = -1) ∨ (∃ r, G 11 (20 * b + w) = r + 1 ∧ r < G 0 1 ∧ t.1 (y + 14) (20 * b + w) = nI r ∧ G 2 r = 4 ∧ G 3 r = b)) ∧
  (∃ l, cR x s (s.1 (x + 33) b) l ∧ l.length ≤ 20 ∧ ∀ w, w < 20 → G 11 (20 * b + w) = match l.find? (fun r => decide (s.1 (x + 35) r = nI w)) with
    | none => 0
    | some r => r + 1)
/-- use u means thing v of sort c (c < 9), for the class a -/
def uA (G : Nat → Nat → Nat) (y c : Nat) (t : zσ) (a m : Int32) : Prop := ∃ u v, u < 1400 ∧ v < G 6 c ∧ m = nI u ∧ t.1 (y + 33) u = nI v ∧ a = nI v
/-- a var or parameter, in a block b -/
def uV (G : Nat → Nat → Nat) (y b : Nat) (t : zσ) (a m : Int32) : Prop := ∃ u v, u < 1400 ∧ m = nI u ∧ t.1 (y + 33) u = nI v ∧ ((t.1 (y + 34) u = 0 ∧ v < G 6 0 ∧ a = nI v) ∨ (t.1 (y + 34) u = 9 ∧ v < 3 ∧ a = nI (8 + v) ∧ 8 ≤ G 5 b ∧ v < G 12 (G 5 b - 8)))
/-- a code p of an expression in block b -/
def tC (G : Nat → Nat → Nat) (x y b p : Nat) (s t : zσ) : Prop := t.1 (y + 27) p = nI (G 13 p) ∧
  ((G 13 p = 0 ∧ s.1 (x + 27) p = 2 ∧ s.1 (x + 28) p = t.1 (y + 28) p) ∨
  (G 13 p = 1 ∧ s.1 (x + 27) p = 1 ∧ uV G y b t (s.1 (x + 28) p) (t.1 (y + 28) p)) ∨
  (G 13 p = 2 ∧ s.1 (x + 27) p = 91 ∧ uA G y 1 t (s.1 (x + 28) p) (t.1 (y + 28) p)) ∨
  (G 13 p = 3 ∧ s.1 (x + 27) p = 142 ∧ uA G y 1 t (s.1 (x + 28) p) (t.1 (y + 28) p)) ∨
  (G 13 p = 4 ∧ s.1 (x + 27) p = 143) ∨
  (G 13 p = 5 ∧ s.1 (x + 27) p = 144 ∧ uA G y 8 t (s.1 (x + 28) p) (t.1 (y + 28) p)) ∨
  (G 13 p = 6 ∧ s.1 (x + 27) p = 5) ∨
  (G 13 p = 7 ∧ s.1 (x + 27) p = t.1 (y + 28) p ∧ (s.1 (x + 27) p = 43 ∨ s.1 (x + 27) p = 45 ∨ s.1 (x + 27) p = 42 ∨ s.1 (x + 27) p = 47 ∨ s.1 (x + 27) p = 37 ∨ s.1 (x + 27) p = 61 ∨ s.1 (x + 27) p = 60 ∨ s.1 (x + 27) p = 62)))
/-- how the height of the pile goes at code p -/
def tH (G : Nat → Nat → Nat) (h : Nat → Nat) (p : Nat) : Prop := h p ≤ 40 ∧ h (p + 1) ≤ 40 ∧ ((G 13 p = 2 ∨ G 13 p = 6) → 1 ≤ h p ∧ h (p + 1) = h p) ∧ (G 13 p = 7 → 2 ≤ h p ∧ h (p + 1) + 1 = h p) ∧ ((G 13 p = 0 ∨ G 13 p = 1 ∨ G 13 p = 3 ∨ G 13 p = 4 ∨ G 13 p = 5) → h (p + 1) = h p + 1)
/-- the codes from i to j are an expression -/
def tX (G : Nat → Nat → Nat) (x y b i j : Nat) (s t : zσ) : Prop := i < j ∧ j ≤ 400 ∧ ∃ h : Nat → Nat, h i = 0 ∧ h j = 1 ∧ ∀ p, i ≤ p → p < j → tH G h p ∧ tC G x y b p s t
/-- statement r has m expressions -/
def tE (G : Nat → Nat → Nat) (x y r m : Nat) (s t : zσ) : Prop := ∃ c : Nat → Nat, s.1 (x + 23) r = nI (c 0) ∧ s.1 (x + 24) r = nI (c m) ∧ c m ≤ 400 ∧ ∀ k, k < m → ∃ e, e < 401 ∧ t.1 (y + 22) (4 * r + k) = nI e ∧ t.1 (y + 25) e = nI (c k) ∧ t.1 (y + 26) e = nI (c (k + 1)) ∧ tX G x y (G 1 r) (c k) (c (k + 1)) s t
/-- the list of semas: four bits each in the class -/
def zpk : List Nat → Nat
  | [] => 0
  | v :: l => (v + 1) + 16 * zpk l
def tL (G : Nat → Nat → Nat) (x y r : Nat) (s t : zσ) : Prop := ∃ l : List Nat, l.length ≤ 4 ∧ (∀ v, v ∈ l → v < G 6 2) ∧ s.1 (x + 21) r = nI (zpk l) ∧ t.1 (y + 20) r = nI l.length ∧ (∀ k, k < l.length → ∃ u, u < 1400 ∧ t.1 (y + 21) (4 * r + k) = nI u ∧ t.1 (y + 33) u = nI (l.getD k 0)) ∧ t.1 (y + 17) r = -1
/-- the operands of statement r, by its kind -/
def tO (G : Nat → Nat → Nat) (x y r : Nat) (s t : zσ) : Prop :=
  let A := fun c => uA G y c t (s.1 (x + 21) r) (t.1 (y + 17) r)
  let B := fun c => uA G y c t (s.1 (x + 22) r) (t.1 (y + 18) r)
  let N := s.1 (x + 21) r = -1 ∧ t.1 (y + 17) r = -1
  let V := uV G y (G 1 r) t (s.1 (x + 21) r) (t.1 (y + 17) r)
  let E := fun m => tE G x y r m s t
  let H := fun h => t.1 (y + 19) r = nI h
  (G 10 r = 1 ∧ V ∧ E 1) ∨ (G 10 r = 2 ∧ A 1 ∧ E 2) ∨
  (G 10 r = 3 ∧ (N ∨ V) ∧ B 7 ∧ ∃ p, p < G 6 7 ∧ s.1 (x + 22) r = nI p ∧ t.1 (y + 20) r = nI (G 12 p) ∧ E (G 12 p)) ∨
  (G 10 r = 4 ∧ E 1 ∧ 8 ≤ G 5 (G 1 r)) ∨
  (G 10 r = 5 ∧ E 1 ∧ (∃ b, b < G 0 1 ∧ s.1 (x + 21) r = nI b ∧ t.1 (y + 23) r = nI b ∧ G 2 b = 2 ∧ G 3 b = r) ∧ ((s.1 (x + 22) r = -1 ∧ t.1 (y + 24) r = -1) ∨ (∃ b, b < G 0 1 ∧ s.1 (x + 22) r = nI b ∧ t.1 (y + 24) r = nI b ∧ G 2 b = 2 ∧ G 3 b = r))) ∨
  (G 10 r = 6 ∧ E 1 ∧ (∃ b, b < G 0 1 ∧ s.1 (x + 21) r = nI b ∧ t.1 (y + 23) r = nI b ∧ G 2 b = 3 ∧ G 3 b = r) ∧ s.1 (x + 22) r = -1 ∧ t.1 (y + 24) r = -1) ∨
  (G 10 r = 7 ∧ A 1 ∧ E 1) ∨ (G 10 r = 8 ∧ A 1 ∧ B 1 ∧ E 0) ∨ (G 10 r = 9 ∧ A 1 ∧ E 0) ∨ ((G 10 r = 10 ∨ G 10 r = 11) ∧ tL G x y r s t ∧ E 0) ∨
  ((G 10 r = 12 ∨ G 10 r = 13 ∨ G 10 r = 14 ∨ G 10 r = 15) ∧ A 3 ∧ E 0) ∨
  ((G 10 r = 16 ∨ G 10 r = 17) ∧ A 8 ∧ ((H 0 ∧ s.1 (x + 22) r = -1 ∧ E 0) ∨ (H 1 ∧ s.1 (x + 22) r = 145 ∧ t.1 (y + 20) r = 1 ∧ E 1) ∨ (H 2 ∧ s.1 (x + 22) r = 146 ∧ t.1 (y + 20) r = 1 ∧ E 1) ∨ (H 3 ∧ s.1 (x + 22) r = 147 ∧ t.1 (y + 20) r = 1 ∧ E 1) ∨ (H 3 ∧ s.1 (x + 22) r = 141 ∧ t.1 (y + 20) r = 2 ∧ E 2) ∨ (H 4 ∧ B 4 ∧ E 0))) ∨
  (G 10 r = 18 ∧ H 0 ∧ (N ∨ A 8) ∧ E 0) ∨ (G 10 r = 19 ∧ H 0 ∧ A 8 ∧ E 0) ∨ (G 10 r = 20 ∧ H 0 ∧ A 8 ∧ E 1) ∨ (G 10 r = 21 ∧ H 0 ∧ A 8 ∧ E 0) ∨
  (G 10 r = 22 ∧ E 1) ∨ (G 10 r = 23 ∧ A 5 ∧ B 0 ∧ E 0) ∨ (G 10 r = 24 ∧ A 6 ∧ E 1) ∨ ((G 10 r = 25 ∨ G 10 r = 26 ∨ G 10 r = 27) ∧ A 4 ∧ E 0) ∨ (G 10 r = 28 ∧ E 1)
/-- the statements -/
def tS (G : Nat → Nat → Nat) (x y : Nat) (s t : zσ) : Prop := ∀ r, r < G 0 0 →
  (G 1 r < G 0 1 ∧ s.1 (x + 26) r = nI (G 1 r) ∧ s.1 (x + 20) r = nI (zkd (G 10 r)) ∧ t.1 (y + 15) r = nI (G 10 r)) ∧
  ((G 8 r = 0 ∧ s.1 (x + 25) r = -1 ∧ t.1 (y + 16) r = -1) ∨ (∃ q, G 8 r = q + 1 ∧ q < G 0 0 ∧ G 1 q = G 1 r ∧ s.1 (x + 25) r = nI q ∧ t.1 (y + 16) r = nI q)) ∧ tO G x y r s t
/-- a text, for both -/
def TX (G : Nat → Nat → Nat) (x y : Nat) (s t : zσ) : Prop := tN G x y s t ∧ tD G x y s t ∧ tB G x y s t ∧ tS G x y s t
end ZREL
