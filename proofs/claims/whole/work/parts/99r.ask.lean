/-! ask: who can have -/
section ZBJ
variable {G W : Nat → Nat → Nat} {F : Nat → Nat → Nat → Nat} {B C x y n i D r : Nat} {s t : zσ}
theorem nI_subA {a b : Nat} (h : b ≤ a) : nI a - nI b = nI (a - b) := by
  have e : nI a = nI (a - b) + nI b := by rw [naddN, Nat.sub_add_cancel h]
  rw [e, Int32.add_sub_cancel]
theorem ask_0 {R : Int32} : ∀ m q j, q + m = 4 → m < j → f231_4 n j R 0 (nI q) t = some (0, t) := by
  intro m
  induction m with
  | zero =>
    intro q j hq hj
    obtain ⟨j, rfl⟩ : ∃ j0, j = j0 + 1 := ⟨j - 1, by omega⟩
    rw [show q = 4 by omega, f231_4, if_neg (by decide), if_pos (by decide)]
  | succ m ih =>
    intro q j hq hj
    obtain ⟨j, rfl⟩ : ∃ j0, j = j0 + 1 := ⟨j - 1, by omega⟩
    rw [f231_4, if_pos (show nI q < 4 from (nltN (b := 4) (by omega) (by decide)).mpr (by omega)), if_pos rfl]
    unfold f231_32 f231_33
    rw [naddL]
    exact ih (q + 1) j (by omega) (by omega)
theorem ask_1 {X R : Int32} {c : Nat → Nat} (hc : ∀ k, k < 4 → c k ≤ 4) (cC : ∀ k (s : zσ), k < 4 → f109 n X (nI k) s = some (nI (c k), s)) (cM : ∀ k, k < 4 → f232 n R (nI k) t = some (nI (c k), t)) (hS : ∀ k, k < 4 → ∃ v u, v ≤ 9 ∧ u < 2 ^ 31 ∧ s.1 1015 k = nI v ∧ t.1 1211 k = nI u ∧ (c k ≠ 0 → v = u)) : ∀ m q j j', q + m = 4 → m < j → m < j' → (f108_2 n j X (nI q) s = some (0, s) ∧ f231_4 n j' R 1 (nI q) t = some (0, t)) ∨ (f108_2 n j X (nI q) s = some (1, s) ∧ f231_4 n j' R 1 (nI q) t = some (1, t) ∧ ∀ k, q ≤ k → k < 4 → ∀ v, s.1 1015 k = nI v → v ≤ 9 → c k ≤ v) := by
  intro m
  induction m with
  | zero =>
    intro q j j' hq hj hj'
    obtain ⟨j, rfl⟩ : ∃ j0, j = j0 + 1 := ⟨j - 1, by omega⟩
    obtain ⟨j', rfl⟩ : ∃ j0, j' = j0 + 1 := ⟨j' - 1, by omega⟩
    rw [show q = 4 by omega]
    refine Or.inr ⟨?_, ?_, fun k h1 h2 => by omega⟩
    · rw [f108_2, if_neg (by decide)]
    · rw [f231_4, if_neg (by decide), if_pos (by decide)]
  | succ m ih =>
    intro q j j' hq hj hj'
    obtain ⟨j, rfl⟩ : ∃ j0, j = j0 + 1 := ⟨j - 1, by omega⟩
    obtain ⟨j', rfl⟩ : ∃ j0, j' = j0 + 1 := ⟨j' - 1, by omega⟩
    have q4 : q < 4 := by omega
    have z4 : zin? (nI q) 4 = true := (zinN (by omega)).mpr q4
    have nq := nxN (show q < 2 ^ 31 by omega)
    have l4 : nI q < 4 := (nltN (b := 4) (by omega) (by decide)).mpr q4
    obtain ⟨v, u, h1, h2, h3, h4, h5⟩ := hS q q4
    have hc4 := hc q q4
    have e1 : f108_2 n (j + 1) X (nI q) s = (if nI v < nI (c q) then some (0, s) else f108_2 n j X (nI (q + 1)) s) := by
      rw [f108_2, if_pos l4, if_pos z4, cC q s q4, gy1, nq, h3, naddL]
    have e2 : f231_4 n (j' + 1) R 1 (nI q) t = (if nI u < nI (c q) then f231_4 n j' R 0 (nI (q + 1)) t else f231_4 n j' R 1 (nI (q + 1)) t) := by
      rw [f231_4, if_pos l4, if_neg (by decide), if_pos z4, cM q q4, gy1, nq, h4]
      unfold f231_32 f231_33
      rw [naddL]
    have uv : nI u < nI (c q) ↔ nI v < nI (c q) := by
      by_cases c0 : c q = 0
      · rw [c0]
        exact ⟨fun e => absurd e (nIM0 h2), fun e => absurd e (nIM0 (show v < 2 ^ 31 by omega))⟩
      · rw [h5 c0]
    have nxt := ih (q + 1) j j' (by omega) (by omega) (by omega)
    by_cases g : nI v < nI (c q)
    · rw [if_pos g] at e1
      rw [if_pos (uv.mpr g), ask_0 m (q + 1) j' (by omega) (by omega)] at e2
      exact Or.inl ⟨e1, e2⟩
    · rw [if_neg g] at e1
      rw [if_neg (fun e => g (uv.mp e))] at e2
      rw [e1, e2]
      rcases nxt with w | ⟨w1, w2, w3⟩
      · exact Or.inl w
      · refine Or.inr ⟨w1, w2, fun k g1 g2 v' g3 g4 => ?_⟩
        by_cases e : k = q
        · subst e
          have : v' = v := (neqN (by omega) (by omega)).mp (g3.symm.trans h3)
          rw [this]
          rcases Nat.lt_or_ge v (c k) with w | w
          · exact absurd ((nltN (by omega) (by omega)).mpr w) g
          · exact w
        · exact w3 k (by omega) g2 v' g3 g4
end ZBJ
