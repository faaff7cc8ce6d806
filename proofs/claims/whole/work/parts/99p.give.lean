/-! the act give -/
section ZBH
variable {G W : Nat → Nat → Nat} {F : Nat → Nat → Nat → Nat} {B C x y n i D r : Nat} {s t : zσ}
theorem zcn_le : ∀ (l : List Nat) (k : Nat), zcn l k ≤ l.length
  | [], _ => Nat.le_refl _
  | v :: l, k => by
    unfold zcn
    have := zcn_le l k
    rw [List.length_cons]
    split <;> omega
theorem zcn_0 : ∀ (l : List Nat) (k : Nat), (∀ v, v ∈ l → v < k) → zcn l k = 0
  | [], _, _ => rfl
  | v :: l, k, h => by
    unfold zcn
    have h1 := h v List.mem_cons_self
    rw [zcn_0 l k (fun v hv => h v (List.mem_cons_of_mem _ hv)), if_neg (by omega)]
/-- what both have counted in the first turn: too many, or none too many -/
theorem give_1 {X : Int32} {I R : Int32} {c : Nat → Nat} (hn : 10 ≤ n) (hc : ∀ k, k < 4 → c k ≤ 4) (cC : ∀ k (s : zσ), k < 4 → f109 n X (nI k) s = some (nI (c k), s)) (cM : ∀ k, k < 4 → f232 n R (nI k) t = some (nI (c k), t)) (hS : ∀ k, k < 4 → ∃ v u, v ≤ 9 ∧ u < 2 ^ 31 ∧ s.1 1015 k = nI v ∧ t.1 1211 k = nI u ∧ (c k ≠ 0 → v = u)) : ∀ m q j j', q + m = 4 → m < j → m < j' → (f117_2 n j X (nI q) s = some (8, s) ∧ f256_41 n j' I R 0 (nI q) t = yb0 (f246 n (8 : Int32) t) fun u5 => some u5) ∨ (f117_2 n j X (nI q) s = f117_35 n n X 0 s ∧ f256_41 n j' I R 0 (nI q) t = f256_97 n n I R 0 0 t ∧ ∀ k, q ≤ k → k < 4 → ∀ v, s.1 1015 k = nI v → v ≤ 9 → v + c k ≤ 9) := by
  intro m
  induction m with
  | zero =>
    intro q j j' hq hj hj'
    obtain ⟨j, rfl⟩ : ∃ j0, j = j0 + 1 := ⟨j - 1, by omega⟩
    obtain ⟨j', rfl⟩ : ∃ j0, j' = j0 + 1 := ⟨j' - 1, by omega⟩
    rw [show q = 4 by omega]
    refine Or.inr ⟨?_, ?_, fun k h1 h2 => by omega⟩
    · rw [f117_2, if_neg (by decide)]
    · rw [f256_41, if_neg (by decide)]
  | succ m ih =>
    intro q j j' hq hj hj'
    obtain ⟨j, rfl⟩ : ∃ j0, j = j0 + 1 := ⟨j - 1, by omega⟩
    obtain ⟨j', rfl⟩ : ∃ j0, j' = j0 + 1 := ⟨j' - 1, by omega⟩
    have q4 : q < 4 := by omega
    have z4 : zin? (nI q) 4 = true := (zinN (by omega)).mpr q4
    have nq := nxN (show q < 2 ^ 31 by omega)
    have l4 : nI q < 4 := (nltN (b := 4) (by omega) (by decide)).mpr q4
    obtain ⟨v, u, h1, h2, h3, h4, h5⟩ := hS q q4
    have hc4 := hc q q4
    have e1 : f117_2 n (j + 1) X (nI q) s = (if 9 < nI (v + c q) then some (8, s) else f117_2 n j X (nI (q + 1)) s) := by
      rw [f117_2, if_pos l4, if_pos z4, cC q s q4, gy1, nq, h3, naddN, naddL]
    have e88 : f256_88 n (f256_41 n j') I R 0 (nI q) t = f256_41 n j' I R 0 (nI (q + 1)) t := by
      unfold f256_88
      rw [naddL]
    have e2 : f256_41 n (j' + 1) I R 0 (nI q) t = (if 0 < nI (c q) then if 9 < nI u + nI (c q) then yb0 (f246 n (8 : Int32) t) fun u5 => some u5 else f256_41 n j' I R 0 (nI (q + 1)) t else f256_41 n j' I R 0 (nI (q + 1)) t) := by
      rw [f256_41, if_pos l4, if_pos rfl, cM q q4, gy1, if_pos z4, cM q q4, gy1, nq, h4, e88]
    have nxt := ih (q + 1) j j' (by omega) (by omega) (by omega)
    have more : v + c q ≤ 9 → (f117_2 n (j + 1) X (nI q) s = f117_2 n j X (nI (q + 1)) s) → (f256_41 n (j' + 1) I R 0 (nI q) t = f256_41 n j' I R 0 (nI (q + 1)) t) → _ := fun a b d => (show (f117_2 n (j + 1) X (nI q) s = some (8, s) ∧ f256_41 n (j' + 1) I R 0 (nI q) t = yb0 (f246 n (8 : Int32) t) fun u5 => some u5) ∨ (f117_2 n (j + 1) X (nI q) s = f117_35 n n X 0 s ∧ f256_41 n (j' + 1) I R 0 (nI q) t = f256_97 n n I R 0 0 t ∧ ∀ k, q ≤ k → k < 4 → ∀ v, s.1 1015 k = nI v → v ≤ 9 → v + c k ≤ 9) by
      rw [b, d]
      rcases nxt with w | ⟨w1, w2, w3⟩
      · exact Or.inl w
      · refine Or.inr ⟨w1, w2, fun k g1 g2 v' g3 g4 => ?_⟩
        by_cases e : k = q
        · subst e
          have : v' = v := (neqN (by omega) (by omega)).mp (g3.symm.trans h3)
          rw [this]
          exact a
        · exact w3 k (by omega) g2 v' g3 g4)
    by_cases c0 : c q = 0
    · have g1 : ¬ (9 : Int32) < nI (v + c q) := fun e => by have := (nltN (a := 9) (by decide) (by omega)).mp e; omega
      rw [if_neg g1] at e1
      rw [if_neg (by rw [c0]; decide)] at e2
      exact more (by omega) e1 e2
    · have uv := h5 c0
      subst uv
      rw [if_pos (show (0 : Int32) < nI (c q) from (nltN (a := 0) (by decide) (by omega)).mpr (by omega)), naddN] at e2
      by_cases g : 9 < v + c q
      · have g1 : (9 : Int32) < nI (v + c q) := (nltN (a := 9) (by decide) (by omega)).mpr g
        rw [if_pos g1] at e1 e2
        exact Or.inl ⟨e1, e2⟩
      · have g1 : ¬ (9 : Int32) < nI (v + c q) := fun e => g ((nltN (a := 9) (by decide) (by omega)).mp e)
        rw [if_neg g1] at e1 e2
        exact more (by omega) e1 e2
end ZBH
