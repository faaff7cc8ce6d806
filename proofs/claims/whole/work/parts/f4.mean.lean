/-! what the uses mean: the reference, when it has read all -/
section ZRO
variable {n y u N p m : Nat} {t : zσ} {r : Nat → Int32 → zσ → Option zσ}
theorem m_30 (hu : u < 1400) (hN : N ≤ 60) (h0 : t.1 y 0 = nI N) : ∀ (d i j : Nat), i + d = N → d < j → f203_30 n r j y (nI u) (nmF t y (t.2.1 (y + 29) u) i).1 (nmF t y (t.2.1 (y + 29) u) i).2 (nI i) t = f203_90 n r n y (nI u) (nmF t y (t.2.1 (y + 29) u) N).1 (nmF t y (t.2.1 (y + 29) u) N).2 (t.1 (y + 32) u) 0 t := by
  have zu : zin? (nI u) 1400 = true := zin_nI hu (by decide)
  have nu : nx (nI u) = u := nx_nI (by omega)
  intro d
  induction d with
  | zero =>
    intro i j hd hj
    obtain ⟨j, rfl⟩ : ∃ j0, j = j0 + 1 := ⟨j - 1, by omega⟩
    have e : i = N := by omega
    subst e
    rw [f203_30, h0, if_neg Int32.lt_irrefl, if_pos zu, nu]; rfl
  | succ d ih =>
    intro i j hd hj
    obtain ⟨j, rfl⟩ : ∃ j0, j = j0 + 1 := ⟨j - 1, by omega⟩
    have zi : zin? (nI i) 60 = true := zin_nI (show i < 60 by omega) (by decide)
    have ni : nx (nI i) = i := nx_nI (by omega)
    have g := ih (i + 1) j (by omega) (by omega)
    rw [f203_30, h0, if_pos (nI_lt (by omega) (by omega)), if_pos zi, if_pos zu, ni, nu]
    unfold f203_73
    by_cases e : t.2.1 (y + 1) i = t.2.1 (y + 29) u
    · have en : nmF t y (t.2.1 (y + 29) u) (i + 1) = (t.1 (y + 2) i, t.1 (y + 3) i) := if_pos e
      rw [en] at g
      rw [if_pos e, if_pos zi, nI_1, ← g]
      simp only [zlet, if_pos zi]
    · have en : nmF t y (t.2.1 (y + 29) u) (i + 1) = nmF t y (t.2.1 (y + 29) u) i := if_neg e
      rw [en] at g
      rw [if_neg e, nI_1, ← g]
theorem m_90n {a b x6 : Int32} {j : Nat} (hj : 0 < j) : f203_90 n r j y (nI u) a b (-1) x6 t = f203_143 n r y (nI u) a b t := by
  obtain ⟨j, rfl⟩ : ∃ j0, j = j0 + 1 := ⟨j - 1, by omega⟩
  rw [f203_90, if_pos rfl]
theorem m_90p {a : Int32 × Int32} (hu : u < 1400) (hp : p < 6) (hm : m ≤ 3) (h11 : t.1 (y + 11) p = nI m) : ∀ (d i j : Nat), i + d = m → d < j → f203_90 n r j y (nI u) (paF t y p (t.2.1 (y + 29) u) a i).1 (paF t y p (t.2.1 (y + 29) u) a i).2 (nI p) (nI i) t = f203_143 n r y (nI u) (paF t y p (t.2.1 (y + 29) u) a m).1 (paF t y p (t.2.1 (y + 29) u) a m).2 t := by
  have zu : zin? (nI u) 1400 = true := zin_nI hu (by decide)
  have nu : nx (nI u) = u := nx_nI (by omega)
  have zp : zin? (nI p) 6 = true := zin_nI hp (by decide)
  have np : nx (nI p) = p := nx_nI (by omega)
  have hpm : ¬ nI p = (-1 : Int32) := fun e => (neqM (by omega)).mp e
  have e3 : ∀ i, (3 : Int32) * nI p + nI i = nI (3 * p + i) := fun i => by rw [nLmul, naddN]
  intro d
  induction d with
  | zero =>
    intro i j hd hj
    obtain ⟨j, rfl⟩ : ∃ j0, j = j0 + 1 := ⟨j - 1, by omega⟩
    have e : i = m := by omega
    subst e
    rw [f203_90, if_neg hpm, if_pos zp, np, h11, if_neg Int32.lt_irrefl]
  | succ d ih =>
    intro i j hd hj
    obtain ⟨j, rfl⟩ : ∃ j0, j = j0 + 1 := ⟨j - 1, by omega⟩
    have g := ih (i + 1) j (by omega) (by omega)
    rw [f203_90, if_neg hpm, if_pos zp, np, h11, if_pos (nI_lt (by omega) (by omega)), e3, if_pos (zin_nI (show 3 * p + i < 18 by omega) (by decide)), if_pos zu, nx_nI (show 3 * p + i < 2 ^ 31 by omega), nu]
    unfold f203_137
    rw [nI_1]
    by_cases e : t.2.1 (y + 12) (3 * p + i) = t.2.1 (y + 29) u
    · have en : paF t y p (t.2.1 (y + 29) u) a (i + 1) = (9, nI i) := if_pos e
      rw [en] at g
      rw [if_pos e, ← g]
    · have en : paF t y p (t.2.1 (y + 29) u) a (i + 1) = paF t y p (t.2.1 (y + 29) u) a i := if_neg e
      rw [en] at g
      rw [if_neg e, ← g]
/-- the meaning of use u is found -/
theorem m_mean (hn : 5000 ≤ n) (hu : u < 1400) (hN : N ≤ 60) (h0 : t.1 y 0 = nI N) (hk : ok32 t y u) : f203_30 n r n y (nI u) (-1) (-1) (nI 0) t = f203_143 n r y (nI u) (zso t y u).1 (zso t y u).2 t := by
  have g := m_30 (n := n) (r := r) hu hN h0 N 0 n (by omega) (by omega)
  have g' : f203_30 n r n y (nI u) (-1) (-1) (nI 0) t = _ := g
  rw [g']
  have n0 : nx (t.1 y 0) = N := by rw [h0, nx_nI (by omega)]
  unfold zso
  rcases hk with e | ⟨p, m, hp, hm, e, e2⟩
  · rw [if_pos e, n0, e, m_90n (by omega)]
  · have hne : ¬ nI p = (-1 : Int32) := fun e => (neqM (by omega)).mp e
    rw [e, if_neg hne, n0, nx_nI (show p < 2 ^ 31 by omega), e2, nx_nI (show m < 2 ^ 31 by omega)]
    exact m_90p (n := n) (r := r) (a := nmF t y (t.2.1 (y + 29) u) N) hu hp hm e2 m 0 n (by omega) (by omega)
/-- and held against what the use asks -/
theorem m_143 {a b : Int32} (hu : u < 1400) : (((t.1 (y + 31) u = 10 → a = 0 ∨ a = 9) ∧ (¬ t.1 (y + 31) u = 10 → a = t.1 (y + 31) u)) → f203_143 n r y (nI u) a b t = r y (nI (u + 1)) (sI (sI t (y + 34) u a) (y + 33) u b)) ∧ (¬ ((t.1 (y + 31) u = 10 → a = 0 ∨ a = 9) ∧ (¬ t.1 (y + 31) u = 10 → a = t.1 (y + 31) u)) → f203_143 n r y (nI u) a b t = yb0 (f173 n (6 : Int32) (t.1 (y + 30) u) t) fun v => r y (nI (u + 1)) (sI (sI v (y + 34) u a) (y + 33) u b)) := by
  have zu : zin? (nI u) 1400 = true := zin_nI hu (by decide)
  have nu : nx (nI u) = u := nx_nI (by omega)
  have e206 : ∀ v : zσ, f203_206 n r y (nI u) a b v = r y (nI (u + 1)) (sI (sI v (y + 34) u a) (y + 33) u b) := fun v => by
    unfold f203_206
    simp only [zlet, if_pos zu, nu, nI_1]
  have e1 : f203_187 n r y (nI u) a b 1 t = r y (nI (u + 1)) (sI (sI t (y + 34) u a) (y + 33) u b) := by
    unfold f203_187
    rw [if_neg n10, e206]
  have e0 : f203_187 n r y (nI u) a b 0 t = yb0 (f173 n (6 : Int32) (t.1 (y + 30) u) t) fun v => r y (nI (u + 1)) (sI (sI v (y + 34) u a) (y + 33) u b) := by
    unfold f203_187
    rw [if_pos rfl, if_pos zu, nu]
    simp only [e206]
  unfold f203_143 f203_164
  rw [if_pos zu, nu, e1, e0]
  by_cases h10 : t.1 (y + 31) u = 10
  · rw [if_pos h10]
    by_cases a0 : a = 0
    · rw [if_pos a0]
      exact ⟨fun _ => rfl, fun h => absurd ⟨fun _ => Or.inl a0, fun h2 => absurd h10 h2⟩ h⟩
    · rw [if_neg a0]
      by_cases a9 : a = 9
      · rw [if_pos a9]
        exact ⟨fun _ => rfl, fun h => absurd ⟨fun _ => Or.inr a9, fun h2 => absurd h10 h2⟩ h⟩
      · rw [if_neg a9]
        exact ⟨fun h => by rcases h.1 h10 with e | e; exact absurd e a0; exact absurd e a9, fun _ => rfl⟩
  · rw [if_neg h10, if_pos zu]
    by_cases ae : a = t.1 (y + 31) u
    · rw [if_pos ae]
      exact ⟨fun _ => rfl, fun h => absurd ⟨fun h2 => absurd h2 h10, fun _ => ae⟩ h⟩
    · rw [if_neg ae]
      exact ⟨fun h => absurd (h.2 h10) ae, fun _ => rfl⟩
end ZRO
