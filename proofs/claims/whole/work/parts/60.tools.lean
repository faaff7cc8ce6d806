/-! tools for steps of the models: reads behind writes, small numbers -/
section ZG0
theorem gI (s : zσ) (a k : Nat) (v : Int32) (b j : Nat) : (sI s a k v).1 b j = if b = a ∧ j = k then v else s.1 b j := by
  unfold sI upd
  by_cases h : b = a
  · subst h; simp
  · simp [h]
theorem gI2 (s : zσ) (a k : Nat) (v : Int32) : (sI s a k v).2 = s.2 := rfl
theorem gF (s : zσ) (a lo hi : Nat) (v : Int32) (b j : Nat) : (sF s a lo hi v).1 b j = if b = a ∧ lo ≤ j ∧ j < hi then v else s.1 b j := by
  unfold sF zfil
  by_cases h : b = a
  · subst h; simp
  · simp [h]
theorem gF2 (s : zσ) (a lo hi : Nat) (v : Int32) : (sF s a lo hi v).2 = s.2 := rfl
theorem gC (s : zσ) (a0 sp a dp n b j : Nat) : (sC s a0 sp a dp n).1 b j = if b = a ∧ dp ≤ j ∧ j < dp + n then s.1 a0 (sp + (j - dp)) else s.1 b j := by
  unfold sC va_cpy
  by_cases h : b = a
  · subst h; simp
  · simp [h]
theorem gC2 (s : zσ) (a0 sp a dp n : Nat) : (sC s a0 sp a dp n).2 = s.2 := rfl
theorem gJ (s : zσ) (a k : Nat) (v : Int64) (b j : Nat) : (sJ s a k v).2.1 b j = if b = a ∧ j = k then v else s.2.1 b j := by
  unfold sJ vp_updL
  by_cases h : b = a
  · subst h; simp
  · simp [h]
theorem gJ1 (s : zσ) (a k : Nat) (v : Int64) : (sJ s a k v).1 = s.1 := rfl
theorem gJ3 (s : zσ) (a k : Nat) (v : Int64) : (sJ s a k v).2.2 = s.2.2 := rfl
theorem gR (s : zσ) (a k : Nat) (v : Option Nat) (b j : Nat) : (sR s a k v).2.2 b j = if b = a ∧ j = k then v else s.2.2 b j := by
  unfold sR va_up
  by_cases h : b = a
  · subst h; simp
  · simp [h]
theorem gR1 (s : zσ) (a k : Nat) (v : Option Nat) : (sR s a k v).1 = s.1 := rfl
theorem gR2 (s : zσ) (a k : Nat) (v : Option Nat) : (sR s a k v).2.1 = s.2.1 := rfl
theorem hIe {s : zσ} {a k : Nat} {v : Int32} : (sI s a k v).1 a k = v := by simp [gI]
theorem hIk {s : zσ} {a k j : Nat} {v : Int32} (h : j ≠ k) : (sI s a k v).1 a j = s.1 a j := by simp [gI, h]
theorem hIo {s : zσ} {a b k : Nat} {v : Int32} (h : b ≠ a) : (sI s a k v).1 b = s.1 b := by
  funext j
  simp [gI, h]
theorem hIx {s : zσ} {a b k j : Nat} {v : Int32} (h : ¬ (b = a ∧ j = k)) : (sI s a k v).1 b j = s.1 b j := by simp only [gI, if_neg h]
/-! numbers -/
theorem nIM0 {k : Nat} (h : k < 2 ^ 31) : ¬ nI k < 0 := fun h2 => by
  have := (nI_ltI (b := 0) h (by decide)).mp h2
  omega
theorem zinN {k n : Nat} (h : k < 2 ^ 31) : zin? (nI k) n = true ↔ k < n := by
  unfold zin?
  rw [nI_clamp h]
  simp [nIM0 h]
theorem zinL {k n : Nat} (h : k < 2 ^ 31) : zin? (no_index (OfNat.ofNat k : Int32)) n = true ↔ (OfNat.ofNat k : Nat) < n := zinN h
theorem nxN {k : Nat} (h : k < 2 ^ 31) : nx (nI k) = k := nI_clamp h
theorem nxL {k : Nat} (h : k < 2 ^ 31) : nx (no_index (OfNat.ofNat k : Int32)) = (OfNat.ofNat k : Nat) := nI_clamp h
theorem nltL {a k : Nat} (ha : a < 2 ^ 31) (hk : k < 2 ^ 31) : nI a < (no_index (OfNat.ofNat k : Int32)) ↔ a < (OfNat.ofNat k : Nat) := nI_ltI ha hk
theorem nLlt {a k : Nat} (ha : a < 2 ^ 31) (hk : k < 2 ^ 31) : (no_index (OfNat.ofNat k : Int32)) < nI a ↔ (OfNat.ofNat k : Nat) < a := nI_ltI hk ha
theorem nltN {a b : Nat} (ha : a < 2 ^ 31) (hb : b < 2 ^ 31) : nI a < nI b ↔ a < b := nI_ltI ha hb
theorem neqL {a k : Nat} (ha : a < 2 ^ 31) (hk : k < 2 ^ 31) : nI a = (no_index (OfNat.ofNat k : Int32)) ↔ a = (OfNat.ofNat k : Nat) := nI_eq ha hk
theorem neqN {a b : Nat} (ha : a < 2 ^ 31) (hb : b < 2 ^ 31) : nI a = nI b ↔ a = b := nI_eq ha hb
theorem neqM {a : Nat} (ha : a < 2 ^ 31) : nI a = -1 ↔ False := by
  refine ⟨fun h => ?_, fun h => h.elim⟩
  have h2 := nIM0 ha
  rw [h] at h2
  exact h2 (by decide)
theorem nmulL (a k : Nat) : nI a * (no_index (OfNat.ofNat k : Int32)) = nI ((OfNat.ofNat k : Nat) * a) := by
  rw [Nat.mul_comm]
  exact (Int32.ofNat_mul a k).symm
theorem nLmul (a k : Nat) : (no_index (OfNat.ofNat k : Int32)) * nI a = nI ((OfNat.ofNat k : Nat) * a) := (Int32.ofNat_mul k a).symm
theorem naddL (a k : Nat) : nI a + (no_index (OfNat.ofNat k : Int32)) = nI (a + (OfNat.ofNat k : Nat)) := (Int32.ofNat_add a k).symm
theorem nLadd (a k : Nat) : (no_index (OfNat.ofNat k : Int32)) + nI a = nI ((OfNat.ofNat k : Nat) + a) := (Int32.ofNat_add k a).symm
theorem naddN (a b : Nat) : nI a + nI b = nI (a + b) := nI_add a b
theorem nsubN {a b : Nat} (h : b ≤ a) : nI a - nI b = nI (a - b) := by
  have e : nI a = nI (a - b) + nI b := by rw [nI_add]; congr 1; omega
  rw [e, Int32.add_sub_cancel]
theorem nsubL {a k : Nat} (h : k ≤ a) : nI a - (no_index (OfNat.ofNat k : Int32)) = nI (a - (OfNat.ofNat k : Nat)) := nsubN h
theorem nof0 : nI 0 = 0 := rfl
theorem naddM (k : Nat) : nI (k + 1) + -1 = nI k := by
  rw [← nI_1, Int32.add_assoc, show (1 : Int32) + -1 = 0 by decide, Int32.add_zero]
theorem neq0 {a : Nat} (ha : a < 2 ^ 31) : nI a = 0 ↔ a = 0 := nI_eq (b := 0) ha (by decide)
theorem neq1 {a : Nat} (ha : a < 2 ^ 31) : nI a = 1 ↔ a = 1 := nI_eq (b := 1) ha (by decide)
theorem neq2 {a : Nat} (ha : a < 2 ^ 31) : nI a = 2 ↔ a = 2 := nI_eq (b := 2) ha (by decide)
theorem neq3 {a : Nat} (ha : a < 2 ^ 31) : nI a = 3 ↔ a = 3 := nI_eq (b := 3) ha (by decide)
theorem neq4 {a : Nat} (ha : a < 2 ^ 31) : nI a = 4 ↔ a = 4 := nI_eq (b := 4) ha (by decide)
theorem neq5 {a : Nat} (ha : a < 2 ^ 31) : nI a = 5 ↔ a = 5 := nI_eq (b := 5) ha (by decide)
theorem neq6 {a : Nat} (ha : a < 2 ^ 31) : nI a = 6 ↔ a = 6 := nI_eq (b := 6) ha (by decide)
theorem neq7 {a : Nat} (ha : a < 2 ^ 31) : nI a = 7 ↔ a = 7 := nI_eq (b := 7) ha (by decide)
theorem neq8 {a : Nat} (ha : a < 2 ^ 31) : nI a = 8 ↔ a = 8 := nI_eq (b := 8) ha (by decide)
theorem neq9 {a : Nat} (ha : a < 2 ^ 31) : nI a = 9 ↔ a = 9 := nI_eq (b := 9) ha (by decide)
theorem neq10 {a : Nat} (ha : a < 2 ^ 31) : nI a = 10 ↔ a = 10 := nI_eq (b := 10) ha (by decide)
theorem neq11 {a : Nat} (ha : a < 2 ^ 31) : nI a = 11 ↔ a = 11 := nI_eq (b := 11) ha (by decide)
theorem neq12 {a : Nat} (ha : a < 2 ^ 31) : nI a = 12 ↔ a = 12 := nI_eq (b := 12) ha (by decide)
/-- any int that is no less than 0 and below n -/
theorem gnI_of {x : Int32} (h : ¬ x < 0) : ∃ k, x = nI k ∧ k < 2 ^ 31 := by
  refine ⟨x.toNatClampNeg, ?_, ?_⟩
  · have h0 : 0 ≤ x := Int32.not_lt.mp h
    have h1 : 0 ≤ x.toInt := by
      have := Int32.le_iff_toInt_le.mp h0
      simpa using this
    apply Int32.toInt_inj.mp
    unfold nI
    rw [Int32.toInt_ofNat_of_lt]
    · rw [Int32.toNatClampNeg]
      omega
    · have h2 : x.toInt < 2 ^ 31 := x.toInt_lt
      rw [Int32.toNatClampNeg]
      omega
  · have h2 : x.toInt < 2 ^ 31 := x.toInt_lt
    rw [Int32.toNatClampNeg]
    omega
theorem gy1 {α β γ : Type} {a : α} {b : β} {k : α → β → Option γ} : yb1 (some (a, b)) k = k a b := rfl
theorem gy0 {β γ : Type} {b : β} {k : β → Option γ} : yb0 (some b) k = k b := rfl
theorem grd {γ : Type} {ci a : Nat} {k : Nat → Option γ} (h : zck ci a = true) : zrd ci (some a) k = k a := if_pos h
theorem grw {γ : Type} {a : Nat} {k : Nat → Option γ} (h : zrk a = true) : zrw (some a) k = k a := if_pos h
theorem gck8 {i : Nat} (h : i < 8) : zck 8 (1036 + 3 * i) = true := by
  have : ∀ i : Fin 8, zck 8 (1036 + 3 * i.1) = true := by decide
  exact this ⟨i, h⟩
theorem gck9 {x : Nat} (h : x = 1060 ∨ x = 1096) : zck 9 x = true ∧ zck 6 (x + 19) = true ∧ zck 0 (x + 29) = true := by
  rcases h with rfl | rfl <;> decide
theorem gck12 {y : Nat} (h : y = 1134 ∨ y = 1170) : zck 12 y = true := by
  rcases h with rfl | rfl <;> decide
theorem gnar0 : vp_nar .boolean (0 : Int32) = 0 := by decide
theorem gnar1 : vp_nar .boolean (1 : Int32) = 1 := by decide
theorem z0_9 : zin? (0 : Int32) 9 = true := by decide
theorem x0_n : nx (0 : Int32) = 0 := by decide
theorem z1_9 : zin? (1 : Int32) 9 = true := by decide
theorem x1_n : nx (1 : Int32) = 1 := by decide
theorem z2_9 : zin? (2 : Int32) 9 = true := by decide
theorem x2_n : nx (2 : Int32) = 2 := by decide
theorem z3_9 : zin? (3 : Int32) 9 = true := by decide
theorem x3_n : nx (3 : Int32) = 3 := by decide
theorem z4_9 : zin? (4 : Int32) 9 = true := by decide
theorem x4_n : nx (4 : Int32) = 4 := by decide
theorem z5_9 : zin? (5 : Int32) 9 = true := by decide
theorem x5_n : nx (5 : Int32) = 5 := by decide
theorem z6_9 : zin? (6 : Int32) 9 = true := by decide
theorem x6_n : nx (6 : Int32) = 6 := by decide
theorem z7_9 : zin? (7 : Int32) 9 = true := by decide
theorem x7_n : nx (7 : Int32) = 7 := by decide
theorem z8_9 : zin? (8 : Int32) 9 = true := by decide
theorem x8_n : nx (8 : Int32) = 8 := by decide
theorem z0_64 : zin? (0 : Int32) 64 = true := by decide
theorem z1_64 : zin? (1 : Int32) 64 = true := by decide
end ZG0
