/-! the answers that only read, further -/
section ZEB
variable {G W : Nat → Nat → Nat} {F : Nat → Nat → Nat → Nat} {B C x y n : Nat} {s t : zσ}
theorem ea_item (h : eR G W F B C x y s t) (a b : Int32) : eq2 (f140 n a b) (f272 n a b) s t := by
  obtain ⟨c9, c12, hy⟩ := eR_c h
  obtain ⟨h1, h2, h3⟩ := eR_n h 1 (by decide)
  have hm := eR_m h
  obtain ⟨hr, hr2, hx, -, -, ⟨-, -, -, hW, -⟩, -⟩ := h
  by_cases ha : a < 0
  · exact ⟨0, by simp [f140, hr, hx, grd c9, has_neg ha, gy1], by simp [f272, f272_28, f272_29, f272_102, hr2, ha]⟩
  · obtain ⟨k, hk, rfl⟩ := nI_of ha
    have e1 : f134 n x 1 (nI k) s = some (if k < G 6 1 then 1 else 0, s) := has_N h1 z1_9 hk (by omega)
    have l1 := nltN hk (show G 6 1 < 2 ^ 31 by omega)
    by_cases hl : k < G 6 1
    · have z4 : zin? (nI k) 4 = true := (zinN hk).mpr (by omega)
      obtain ⟨r1, r2⟩ := hW k (by omega)
      simp only [eq2, f140, hr, hx, grd c9, e1, hl, gy1, z4, nxN hk, f272, f272_29, f272_102, hr2, ha, hy, grd c12, z1_9, x1_n, h2, l1, f92, f95, if_true, if_false, show ¬ (1 : Int32) = 0 by decide, ← r1]
      rcases r2 with r2 | ⟨p, z, hp, hz, r2, r3, r4, r5⟩
      · simp only [r2, if_true, gy1]
        by_cases b0 : b = -1
        · exact ⟨-1, by simp [b0], by simp [b0]⟩
        · by_cases bn : b < 0
          · exact ⟨0, by simp [b0, bn], by simp [b0]⟩
          · obtain ⟨j, hj, rfl⟩ := nI_of bn
            have : ¬ nI j < -1 := fun q => by
              have h5 := nIM0 hj
              exact h5 (Int32.lt_trans q (by decide))
            exact ⟨0, by simp [b0, bn, this], by simp [b0]⟩
      · have p4 : zin? (nI p) 4 = true := (zinN (by omega)).mpr (by omega)
        have p5 : zin? (nI p) 5 = true := (zinN (by omega)).mpr (by omega)
        have pm : ¬ nI p = -1 := fun q => (neqM (show p < 2 ^ 31 by omega)).mp q
        simp only [r2, pm, if_false, p4, p5, if_true, nxN (show p < 2 ^ 31 by omega), r3, r4, gy1]
        by_cases b0 : b = -1
        · exact ⟨nI z, by simp [b0], by simp [b0]⟩
        · by_cases bn : b < 0
          · exact ⟨0, by simp [b0, bn], by simp [b0, bn]⟩
          · obtain ⟨j, hj, rfl⟩ := nI_of bn
            have l2 := nltN hj (show z < 2 ^ 31 by omega)
            by_cases hl2 : j < z
            · have w2 : zin? (nI (20 * p + j)) 80 = true := (zinN (by omega)).mpr (by omega)
              have w3 : zin? (nI (20 * p + j)) 100 = true := (zinN (by omega)).mpr (by omega)
              refine ⟨s.1 1013 (20 * p + j), ?_, ?_⟩
              · simp [b0, bn, l2, hl2, nmulL, naddN, w2, nxN (show 20 * p + j < 2 ^ 31 by omega), gy1]
              · rw [r5 j hl2]
                simp [b0, bn, l2, hl2, nLmul, naddN, w3, nxN (show 20 * p + j < 2 ^ 31 by omega)]
            · exact ⟨0, by simp [b0, bn, l2, hl2], by simp [b0, bn, l2, hl2]⟩
    · exact ⟨0, by simp [f140, hr, hx, grd c9, e1, hl, gy1], by simp [f272, f272_28, f272_29, f272_102, hr2, ha, hy, grd c12, z1_9, x1_n, h2, l1, hl]⟩
theorem zct_eq {P Q : Nat → Bool} : ∀ m k, (∀ i, k ≤ i → i < k + m → P i = Q i) → zct P m k = zct Q m k
  | 0, _, _ => rfl
  | m + 1, k, h => by
    unfold zct
    rw [h k (Nat.le_refl _) (by omega), zct_eq m (k + 1) (fun i a b => h i (by omega) (by omega))]
theorem size_L : ∀ m k c j, k + m = 16 → m < j → f125_4 n j (nI c) (nI k) s = some (nI (c + zct (fun i => decide (s.1 1023 i ≠ -1)) m k), s) := by
  intro m
  induction m with
  | zero =>
    intro k c j hk hj
    obtain ⟨j, rfl⟩ : ∃ j0, j = j0 + 1 := ⟨j - 1, by omega⟩
    have e : k = 16 := by omega
    subst e
    rw [f125_4, if_neg (show ¬ nI 16 < Int32.ofNat 16 from Int32.lt_irrefl)]
    rfl
  | succ m ih =>
    intro k c j hk hj
    obtain ⟨j, rfl⟩ : ∃ j0, j = j0 + 1 := ⟨j - 1, by omega⟩
    have z : zin? (nI k) 16 = true := (zinN (by omega)).mpr (by omega)
    rw [f125_4, if_pos (show nI k < Int32.ofNat 16 from nI_lt (b := 16) (by omega) (by decide)), if_pos z, nxN (show k < 2 ^ 31 by omega)]
    unfold zct
    by_cases q : s.1 1023 k = -1
    · rw [if_pos q, f125_26, nI_1, ih (k + 1) c j (by omega) (by omega)]
      simp [q]
    · rw [if_neg q, f125_26, nI_1, nI_1, ih (k + 1) (c + 1) j (by omega) (by omega)]
      simp [q, Nat.add_assoc]
theorem scheds_L : ∀ m k c j, k + m = 16 → m < j → f265_4 n j (nI c) (nI k) t = some (nI (c + zct (fun i => decide (t.1 1240 i ≠ 0)) m k), t) := by
  intro m
  induction m with
  | zero =>
    intro k c j hk hj
    obtain ⟨j, rfl⟩ : ∃ j0, j = j0 + 1 := ⟨j - 1, by omega⟩
    have e : k = 16 := by omega
    subst e
    rw [f265_4, if_neg (show ¬ nI 16 < 16 from Int32.lt_irrefl)]
    rfl
  | succ m ih =>
    intro k c j hk hj
    obtain ⟨j, rfl⟩ : ∃ j0, j = j0 + 1 := ⟨j - 1, by omega⟩
    have z : zin? (nI k) 16 = true := (zinN (by omega)).mpr (by omega)
    rw [f265_4, if_pos (show nI k < 16 from nI_lt (b := 16) (by omega) (by decide)), if_pos z, nxN (show k < 2 ^ 31 by omega)]
    unfold zct
    by_cases q : t.1 1240 k = 0
    · rw [if_pos q, f265_25, zlet, nI_1, show nI c + 0 = nI c from Int32.add_zero _, ih (k + 1) c j (by omega) (by omega)]
      simp [q]
    · rw [if_neg q, f265_25, zlet, nI_1, nI_1, ih (k + 1) (c + 1) j (by omega) (by omega)]
      simp [q, Nat.add_assoc]
/-- how many schedules -/
theorem sch_eq (hH : rH G s t) : zct (fun i => decide (t.1 1240 i ≠ 0)) 16 0 = zct (fun i => decide (s.1 1023 i ≠ -1)) 16 0 := by
  refine zct_eq 16 0 (fun i _ hi => ?_)
  rcases hH.1 i (by omega) with ⟨a, b⟩ | ⟨a, -, -, -, -, -, c⟩
  · simp [a, b]
  · have : ¬ s.1 1023 i = -1 := by
      rcases c with ⟨-, d, e, hd, -, h1, -⟩ | ⟨-, -, -, h1⟩
      · rw [h1]; exact fun q => (neqM (show d < 2 ^ 31 by omega)).mp q
      · rw [h1]; decide
    simp [a, this]
theorem size_ok (hn : 20 ≤ n) : f125 n s = some (nI (zct (fun i => decide (s.1 1023 i ≠ -1)) 16 0), s) := by
  have := size_L (n := n) (s := s) 16 0 0 n (by decide) (by omega)
  rw [Nat.zero_add] at this
  exact this
theorem scheds_ok (hn : 20 ≤ n) : f265 n t = some (nI (zct (fun i => decide (t.1 1240 i ≠ 0)) 16 0), t) := by
  have := scheds_L (n := n) (t := t) 16 0 0 n (by decide) (by omega)
  rw [Nat.zero_add] at this
  exact this
end ZEB
