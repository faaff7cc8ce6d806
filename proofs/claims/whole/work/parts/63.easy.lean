/-! the answers that only read -/
section ZEA
variable {G W : Nat → Nat → Nat} {F : Nat → Nat → Nat → Nat} {B C x y n : Nat} {s t : zσ}
/-- both answer v and leave all as it was -/
def eq2 (f g : zσ → Option (Int32 × zσ)) (s t : zσ) : Prop := ∃ v, f s = some (v, s) ∧ g t = some (v, t)
theorem has_neg {k a : Int32} (h : a < 0) : f134 n x k a s = some (0, s) := by simp [f134, h]
theorem has_N {k : Int32} {c a : Nat} (h : s.1 (x + 11) (nx k) = nI c) (hk : zin? k 9 = true) (ha : a < 2 ^ 31) (hc : c < 2 ^ 31) : f134 n x k (nI a) s = some (if a < c then 1 else 0, s) := by
  unfold f134
  rw [if_neg (nIM0 ha), if_pos hk, h]
  simp only [nltN ha hc]
  split <;> rfl
/-- what a reading of a run has at hand -/
def eR (G W : Nat → Nat → Nat) (F : Nat → Nat → Nat → Nat) (B C x y : Nat) (s t : zσ) : Prop := s.1 1007 11 = 1 ∧ t.1 1132 17 = 1 ∧ s.2.2 1000 3 = some x ∧ RUN G F W B C x y s t
theorem eR_c (h : eR G W F B C x y s t) : zck 9 x = true ∧ zck 12 y = true ∧ t.2.2 1132 11 = some y := ⟨(gck9 h.2.2.2.1.1).1, gck12 h.2.2.2.1.2.1, h.2.2.2.1.2.2.2.2.2.1⟩
theorem eR_n (h : eR G W F B C x y s t) : ∀ k, k < 9 → s.1 (x + 11) k = nI (G 6 k) ∧ t.1 (y + 4) k = nI (G 6 k) ∧ G 6 k ≤ 8 := h.2.2.2.2.1.1.1
theorem eR_m (h : eR G W F B C x y s t) : G 6 1 ≤ 4 ∧ G 6 2 ≤ 4 ∧ G 6 3 ≤ 4 ∧ G 6 4 ≤ 4 ∧ G 6 5 ≤ 4 ∧ G 6 6 ≤ 4 ∧ G 6 7 ≤ 6 := h.2.2.2.2.1.1.2.1
theorem ea_value (h : eR G W F B C x y s t) (a : Int32) : eq2 (f139 n a) (f271 n a) s t := by
  obtain ⟨c9, c12, hy⟩ := eR_c h
  obtain ⟨h1, h2, h3⟩ := eR_n h 0 (by decide)
  obtain ⟨hr, hr2, hx, -, -, ⟨-, -, hV, -⟩, -⟩ := h
  by_cases ha : a < 0
  · exact ⟨0, by simp [f139, hr, hx, grd c9, has_neg ha, gy1], by simp [f271, f271_24, hr2, ha]⟩
  · obtain ⟨k, hk, rfl⟩ := nI_of ha
    have e1 : f134 n x 0 (nI k) s = some (if k < G 6 0 then 1 else 0, s) := has_N h1 z0_9 hk (by omega)
    have l1 := nltN hk (show G 6 0 < 2 ^ 31 by omega)
    by_cases hl : k < G 6 0
    · have z8 : zin? (nI k) 8 = true := (zinN hk).mpr (by omega)
      exact ⟨s.1 1010 k, by simp [f139, hr, hx, grd c9, e1, hl, gy1, z8, nxN hk], by simp [f271, hr2, ha, hy, grd c12, z0_9, x0_n, h2, l1, hl, z8, nxN hk, hV k hl]⟩
    · exact ⟨0, by simp [f139, hr, hx, grd c9, e1, hl, gy1], by simp [f271, f271_24, hr2, ha, hy, grd c12, z0_9, x0_n, h2, l1, hl]⟩
theorem ea_sema (h : eR G W F B C x y s t) (a : Int32) : eq2 (f142 n a) (f274 n a) s t := by
  obtain ⟨c9, c12, hy⟩ := eR_c h
  obtain ⟨h1, h2, h3⟩ := eR_n h 2 (by decide)
  have hm := eR_m h
  obtain ⟨hr, hr2, hx, -, -, ⟨-, -, -, -, hS, -⟩, -⟩ := h
  by_cases ha : a < 0
  · exact ⟨-1, by simp [f142, hr, hx, grd c9, has_neg ha, gy1], by simp [f274, f274_29, hr2, ha]⟩
  · obtain ⟨k, hk, rfl⟩ := nI_of ha
    have e1 : f134 n x 2 (nI k) s = some (if k < G 6 2 then 1 else 0, s) := has_N h1 z2_9 hk (by omega)
    have l1 := nltN hk (show G 6 2 < 2 ^ 31 by omega)
    by_cases hl : k < G 6 2
    · have z4 : zin? (nI k) 4 = true := (zinN hk).mpr (by omega)
      obtain ⟨v, u, -, -, e2, e3, e4⟩ := hS k (by omega)
      have e4 := e4 hl
      subst e4
      exact ⟨nI v, by simp [f142, hr, hx, grd c9, e1, hl, gy1, z4, nxN hk, e2], by simp [f274, hr2, ha, hy, grd c12, z2_9, x2_n, h2, l1, hl, z4, nxN hk, e3]⟩
    · exact ⟨-1, by simp [f142, hr, hx, grd c9, e1, hl, gy1], by simp [f274, f274_29, hr2, ha, hy, grd c12, z2_9, x2_n, h2, l1, hl]⟩
theorem ea_one (h : eR G W F B C x y s t) (a b : Int32) : eq2 (f141 n a b) (f273 n a b) s t := by
  obtain ⟨c9, c12, hy⟩ := eR_c h
  obtain ⟨h1, h2, h3⟩ := eR_n h 1 (by decide)
  have hm := eR_m h
  obtain ⟨hr, hr2, hx, -, -, ⟨-, -, -, hW, -⟩, -⟩ := h
  by_cases ha : a < 0
  · exact ⟨-1, by simp [f141, hr, hx, grd c9, has_neg ha, gy1], by simp [f273, hr2, ha]⟩
  · obtain ⟨k, hk, rfl⟩ := nI_of ha
    have e1 : f134 n x 1 (nI k) s = some (if k < G 6 1 then 1 else 0, s) := has_N h1 z1_9 hk (by omega)
    have l1 := nltN hk (show G 6 1 < 2 ^ 31 by omega)
    by_cases hl : k < G 6 1
    · by_cases hb : b < 0
      · exact ⟨-1, by simp [f141, hr, hx, grd c9, e1, hl, has_neg hb, gy1], by simp [f273, hr2, ha, hb, hy, grd c12, z1_9, x1_n, h2, l1, hl]⟩
      · obtain ⟨j, hj, rfl⟩ := nI_of hb
        have e2 : f134 n x 1 (nI j) s = some (if j < G 6 1 then 1 else 0, s) := has_N h1 z1_9 hj (by omega)
        have l2 := nltN hj (show G 6 1 < 2 ^ 31 by omega)
        by_cases hl2 : j < G 6 1
        · have z4 : zin? (nI k) 4 = true := (zinN hk).mpr (by omega)
          have w4 : zin? (nI j) 4 = true := (zinN hj).mpr (by omega)
          have r1 := (hW k (by omega)).1
          have r2 := (hW j (by omega)).1
          refine ⟨if s.1 1011 k = s.1 1011 j then 1 else 0, ?_, ?_⟩
          · simp [f141, hr, hx, grd c9, e1, hl, e2, hl2, gy1, z4, w4, nxN hk, nxN hj]
            split <;> rfl
          · simp [f273, hr2, ha, hb, hy, grd c12, z1_9, x1_n, h2, l1, hl, l2, hl2, z4, w4, nxN hk, nxN hj, r1, r2]
            split <;> rfl
        · exact ⟨-1, by simp [f141, hr, hx, grd c9, e1, hl, e2, hl2, gy1], by simp [f273, hr2, ha, hb, hy, grd c12, z1_9, x1_n, h2, l1, hl, l2, hl2]⟩
    · exact ⟨-1, by simp [f141, hr, hx, grd c9, e1, hl, gy1], by simp [f273, hr2, ha, hy, grd c12, z1_9, x1_n, h2, l1, hl]⟩
theorem ea_irpt (h : eR G W F B C x y s t) (a b : Int32) : eq2 (f144 n a b) (f276 n a b) s t := by
  obtain ⟨c9, c12, hy⟩ := eR_c h
  obtain ⟨h1, h2, h3⟩ := eR_n h 4 (by decide)
  have hm := eR_m h
  obtain ⟨hr, hr2, hx, -, -, ⟨-, -, -, -, -, -, -, -, hP, -⟩, -⟩ := h
  by_cases ha : a < 0
  · exact ⟨-1, by simp [f144, hr, hx, grd c9, has_neg ha, gy1], by simp [f276, hr2, ha]⟩
  · obtain ⟨k, hk, rfl⟩ := nI_of ha
    have e1 : f134 n x 4 (nI k) s = some (if k < G 6 4 then 1 else 0, s) := has_N h1 z4_9 hk (by omega)
    have l1 := nltN hk (show G 6 4 < 2 ^ 31 by omega)
    by_cases hl : k < G 6 4
    · have z4 : zin? (nI k) 4 = true := (zinN hk).mpr (by omega)
      obtain ⟨r1, r2, r3, -, -⟩ := hP k (by omega)
      simp only [eq2, f144, hr, hx, grd c9, e1, hl, gy1, z4, nxN hk, f276, hr2, ha, hy, grd c12, z4_9, x4_n, h2, l1, r1, r2, r3, if_true, if_false, show ¬ (1 : Int32) = 0 by decide]
      by_cases b0 : b = 0
      · simp only [b0, if_true]
        by_cases q : t.1 1214 k = 0 <;> simp [q]
      · by_cases b1 : b = 1
        · simp only [b1, if_true, show ¬ (1 : Int32) = 0 by decide, if_false]
          by_cases q : t.1 1215 k = 0 <;> simp [q]
        · by_cases b2 : b = 2 <;> simp [b0, b1, b2]
    · exact ⟨-1, by simp [f144, hr, hx, grd c9, e1, hl, gy1], by simp [f276, hr2, ha, hy, grd c12, z4_9, x4_n, h2, l1, hl]⟩
theorem ea_sent (h : eR G W F B C x y s t) (a b : Int32) : eq2 (f145 n a b) (f277 n a b) s t := by
  obtain ⟨c9, c12, hy⟩ := eR_c h
  obtain ⟨h1, h2, h3⟩ := eR_n h 6 (by decide)
  have hm := eR_m h
  obtain ⟨hr, hr2, hx, -, -, ⟨-, -, -, -, -, -, -, hO, -⟩, -⟩ := h
  by_cases ha : a < 0
  · exact ⟨0, by simp [f145, hr, hx, grd c9, has_neg ha, gy1], by simp [f277, f277_29, f277_30, hr2, ha]⟩
  · obtain ⟨k, hk, rfl⟩ := nI_of ha
    have e1 : f134 n x 6 (nI k) s = some (if k < G 6 6 then 1 else 0, s) := has_N h1 z6_9 hk (by omega)
    have l1 := nltN hk (show G 6 6 < 2 ^ 31 by omega)
    by_cases hl : k < G 6 6
    · have z4 : zin? (nI k) 4 = true := (zinN hk).mpr (by omega)
      obtain ⟨z, hz, r1, r2, r3⟩ := hO k (by omega)
      have k4 : k < 4 := by omega
      simp only [eq2, f145, hr, hx, grd c9, e1, hl, gy1, z4, nxN hk, f277, f277_30, f277_67, hr2, ha, hy, grd c12, z6_9, x6_n, h2, l1, r1, r2, if_true, if_false, show ¬ (1 : Int32) = 0 by decide, zlet]
      by_cases b0 : b = -1
      · exact ⟨nI z, by simp [b0], by simp [b0]⟩
      · by_cases bn : b < 0
        · exact ⟨0, by simp [b0, bn], by simp [b0, bn]⟩
        · obtain ⟨j, hj, rfl⟩ := nI_of bn
          have l2 := nltN hj (show z < 2 ^ 31 by omega)
          by_cases hl2 : j < z
          · have w2 : zin? (nI (40 * k + j)) 160 = true := (zinN (by omega)).mpr (by omega)
            refine ⟨s.1 1020 (40 * k + j), ?_, ?_⟩
            · simp [b0, bn, l2, hl2, nmulL, naddN, w2, nxN (show 40 * k + j < 2 ^ 31 by omega)]
            · rw [r3 j hl2]
              simp [b0, bn, l2, hl2, nLmul, naddN, w2, nxN (show 40 * k + j < 2 ^ 31 by omega)]
          · exact ⟨0, by simp [b0, bn, l2, hl2], by simp [b0, bn, l2, hl2]⟩
    · exact ⟨0, by simp [f145, hr, hx, grd c9, e1, hl, gy1], by simp [f277, f277_29, f277_30, hr2, ha, hy, grd c12, z6_9, x6_n, h2, l1, hl]⟩
end ZEA
