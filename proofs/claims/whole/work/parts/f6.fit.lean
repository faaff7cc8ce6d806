/-! the counts of calls: the reference, when all uses have a meaning -/
section ZRQ
variable {n y u N p m us : Nat} {t tz : zσ}
theorem tzM_1 {a : Nat} (h : a ≠ y + 33 ∧ a ≠ y + 34) : (tzMp tz y).1 a = tz.1 a := by
  rw [← tzU_M rfl]; exact tzU_1 h
theorem tzM_z (h : u < nx (tz.1 y 34)) : (tzMp tz y).1 (y + 33) u = (zso tz y u).2 := if_pos ⟨rfl, h⟩
theorem m_229 (hn : 5000 ≤ n) (hy : y = 1134 ∨ y = 1170) (h34 : tz.1 y 34 = nI us) (hus : us ≤ 1400) (h9 : tz.1 1132 9 = 0) : ∀ (d u j : Nat), u + d ≤ us → (∀ v, u ≤ v → v < u + d → fit y tz tz v) → f203_229 n (j + d) y (nI u) (tzMp tz y) = f203_229 n j y (nI (u + d)) (tzMp tz y) := by
  have g9 : (tzMp tz y).1 1132 9 = 0 := by rw [tzM_1 (by omega)]; exact h9
  have g34 : (tzMp tz y).1 y 34 = nI us := by rw [tzM_1 (by omega)]; exact h34
  have hnx : nx (tz.1 y 34) = us := by rw [h34, nx_nI (by omega)]
  intro d
  induction d with
  | zero => intro u j _ _; rfl
  | succ d ih =>
    intro u j hd hv
    have zu : zin? (nI u) 1400 = true := zin_nI (show u < 1400 by omega) (by decide)
    have nu : nx (nI u) = u := nx_nI (by omega)
    have g := ih (u + 1) j (by omega) (fun v p1 p2 => hv v (by omega) (by omega))
    rw [show j + (d + 1) = (j + d) + 1 by omega, f203_229, g34, if_pos (nI_lt (by omega) (by omega)), m_goes g9, yb1_s, if_neg n10, if_pos zu, nu, tzM_1 (a := y + 35) (by omega)]
    unfold f203_286
    rw [show u + (d + 1) = u + 1 + d by omega, nI_1, ← g]
    rcases hv u (Nat.le_refl _) (by omega) with e | ⟨p, hp, e1, e2⟩
    · rw [if_pos e]
    · by_cases e : tz.1 (y + 35) u = -1
      · rw [if_pos e]
      · rw [if_neg e, if_pos zu, if_pos zu, tzM_z (by omega), e1, if_pos (zin_nI hp (by decide)), nx_nI (show p < 2 ^ 31 by omega), tzM_1 (a := y + 11) (by omega), if_pos e2]
/-- all fit -/
theorem m_fitp (hn : 5000 ≤ n) (hy : y = 1134 ∨ y = 1170) (h34 : tz.1 y 34 = nI us) (hus : us ≤ 1400) (h9 : tz.1 1132 9 = 0) (hv : ∀ v, v < us → fit y tz tz v) : f203_229 n n y (nI 0) (tzMp tz y) = some (tzMp tz y) := by
  have g := m_229 hn hy h34 hus h9 us 0 (n - us) (by omega) (fun v _ p2 => hv v (by omega))
  rw [show n - us + us = n by omega, Nat.zero_add] at g
  have g34 : (tzMp tz y).1 y 34 = nI us := by rw [tzM_1 (by omega)]; exact h34
  obtain ⟨j, hj⟩ : ∃ j, n - us = j + 1 := ⟨n - us - 1, by omega⟩
  rw [g, hj, f203_229, g34, if_neg Int32.lt_irrefl]
/-- one doesn't -/
theorem m_unfit {u0 z : Nat} (hn : 5000 ≤ n) (hy : y = 1134 ∨ y = 1170) (h34 : tz.1 y 34 = nI us) (hus : us ≤ 1400) (h9 : tz.1 1132 9 = 0) (hu0 : u0 < us) (hv : ∀ v, v < u0 → fit y tz tz v) (hk : ∃ p, p < 6 ∧ (zso tz y u0).2 = nI p) (hb : ¬ fit y tz tz u0) (hz : tz.1 (y + 30) u0 = nI z) : ∃ t2, f203_229 n n y (nI 0) (tzMp tz y) = some t2 ∧ t2.1 1132 9 = 7 ∧ t2.1 1132 10 = nI z ∧ t2.2 = tz.2 ∧ (∀ a, a ≠ 1132 → a ≠ y + 33 → a ≠ y + 34 → t2.1 a = tz.1 a) ∧ (∀ k, k ≠ 9 → k ≠ 10 → t2.1 1132 k = tz.1 1132 k) := by
  have g := m_229 hn hy h34 hus h9 u0 0 (n - u0) (by omega) (fun v _ p2 => hv v (by omega))
  rw [show n - u0 + u0 = n by omega, Nat.zero_add] at g
  have g9 : (tzMp tz y).1 1132 9 = 0 := by rw [tzM_1 (by omega)]; exact h9
  have g34 : (tzMp tz y).1 y 34 = nI us := by rw [tzM_1 (by omega)]; exact h34
  have hnx : nx (tz.1 y 34) = us := by rw [h34, nx_nI (by omega)]
  have zu : zin? (nI u0) 1400 = true := zin_nI (show u0 < 1400 by omega) (by decide)
  have nu : nx (nI u0) = u0 := nx_nI (by omega)
  obtain ⟨p, hp, e1⟩ := hk
  have n1 : ¬ tz.1 (y + 35) u0 = -1 := fun e => hb (Or.inl e)
  have n2 : ¬ tz.1 (y + 35) u0 = tz.1 (y + 11) p := fun e => hb (Or.inr ⟨p, hp, e1, e⟩)
  obtain ⟨j, hj⟩ : ∃ j, n - u0 = (j + 1) + 1 := ⟨n - u0 - 2, by omega⟩
  have e173 : f173 n 7 (nI z) (tzMp tz y) = some (sI (sI (tzMp tz y) 1132 9 7) 1132 10 (nI z)) := by
    unfold f173
    rw [if_pos g9]
    rfl
  rw [g, hj, f203_229, g34, if_pos (nI_lt hu0 (by omega)), m_goes g9, yb1_s, if_neg n10, if_pos zu, nu, tzM_1 (a := y + 35) (by omega), if_neg n1, if_pos zu, if_pos zu, tzM_z (by omega), e1, if_pos (zin_nI hp (by decide)), nx_nI (show p < 2 ^ 31 by omega), tzM_1 (a := y + 11) (by omega), if_neg n2, if_pos zu, tzM_1 (a := y + 30) (by omega), hz, e173, yb0_s]
  unfold f203_286
  obtain ⟨t2, ht2⟩ : ∃ t2, t2 = sI (sI (tzMp tz y) 1132 9 7) 1132 10 (nI z) := ⟨_, rfl⟩
  rw [← ht2]
  have k9 : t2.1 1132 9 = 7 := by rw [ht2, hIk (by decide)]; exact hIe
  have k34 : t2.1 y 34 = nI us := by rw [ht2, hIo (by omega), hIo (by omega)]; exact g34
  have ne : ¬ t2.1 1132 9 = 0 := by rw [k9]; decide
  refine ⟨t2, ?_, k9, by rw [ht2]; exact hIe, by rw [ht2]; rfl, fun a p1 p2 p3 => ?_, fun k p1 p2 => ?_⟩
  · rw [f203_229, k34, nI_1]
    by_cases hl : u0 + 1 < us
    · rw [if_pos (nI_lt hl (by omega)), m_goes0 ne, yb1_s, if_pos rfl]
    · rw [if_neg (nI_nlt (by omega) (by omega))]
  · rw [ht2, hIo p1, hIo p1]; exact tzM_1 ⟨p2, p3⟩
  · rw [ht2, hIk p2, hIk p1, tzM_1 (by omega)]
end ZRQ
