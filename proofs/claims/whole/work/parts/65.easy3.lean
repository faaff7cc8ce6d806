/-! the answers that only read: tasks, bolts, schedules, log, signals, counts -/
section ZEC
variable {G W : Nat → Nat → Nat} {F : Nat → Nat → Nat → Nat} {B C x y n : Nat} {s t : zσ}
theorem inst_L {a c0 : Nat} (hc : s.1 1007 12 = nI c0) (h8 : c0 ≤ 8) (hR : ∀ i, i < 8 → s.2.2 1008 i = some (1036 + 3 * i)) : ∀ m k c j, k + m = c0 → m < j → f81_4 n j (nI a) (nI c) (nI k) s = some (nI (c + zct (fun i => decide (s.1 (1036 + 3 * i) 3 = nI a)) m k), s) := by
  intro m
  induction m with
  | zero =>
    intro k c j hk hj
    obtain ⟨j, rfl⟩ : ∃ j0, j = j0 + 1 := ⟨j - 1, by omega⟩
    have e : k = c0 := by omega
    subst e
    rw [f81_4, hc, if_neg Int32.lt_irrefl]
    rfl
  | succ m ih =>
    intro k c j hk hj
    obtain ⟨j, rfl⟩ : ∃ j0, j = j0 + 1 := ⟨j - 1, by omega⟩
    have z : zin? (nI k) 8 = true := (zinN (by omega)).mpr (by omega)
    rw [f81_4, hc, if_pos (nI_lt (show k < c0 by omega) (by omega)), if_pos z, nxN (show k < 2 ^ 31 by omega), hR k (by omega), grd (gck8 (by omega))]
    unfold zct
    by_cases q : s.1 (1036 + 3 * k) 3 = nI a
    · rw [if_pos q, f81_28, nI_1, nI_1, ih (k + 1) (c + 1) j (by omega) (by omega)]
      simp [q, Nat.add_assoc]
    · rw [if_neg q, f81_28, nI_1, ih (k + 1) c j (by omega) (by omega)]
      simp [q]
theorem tasks_ok (hy : t.2.2 1132 11 = some y) (c12 : zck 12 y = true) : f209 n t = some (t.1 (y + 4) 8, t) := by
  simp [f209, hy, grd c12, z8_9, x8_n]
theorem ready_L {c0 : Nat} (hy : t.2.2 1132 11 = some y) (c12 : zck 12 y = true) (hc : t.1 (y + 4) 8 = nI c0) (h8 : c0 ≤ 8) : ∀ m k c j, k + m = c0 → m < j → f220_4 n j (nI c) (nI k) t = some (nI (c + zct (fun i => decide (t.1 1225 i = 1)) m k), t) := by
  intro m
  induction m with
  | zero =>
    intro k c j hk hj
    obtain ⟨j, rfl⟩ : ∃ j0, j = j0 + 1 := ⟨j - 1, by omega⟩
    have e : k = c0 := by omega
    subst e
    rw [f220_4, tasks_ok hy c12, gy1, hc, if_neg Int32.lt_irrefl]
    rfl
  | succ m ih =>
    intro k c j hk hj
    obtain ⟨j, rfl⟩ : ∃ j0, j = j0 + 1 := ⟨j - 1, by omega⟩
    have z : zin? (nI k) 8 = true := (zinN (by omega)).mpr (by omega)
    rw [f220_4, tasks_ok hy c12, gy1, hc, if_pos (nI_lt (show k < c0 by omega) (by omega)), if_pos z, nxN (show k < 2 ^ 31 by omega)]
    unfold zct
    by_cases q : t.1 1225 k = 1
    · rw [if_pos q, f220_28, zlet, nI_1, nI_1, ih (k + 1) (c + 1) j (by omega) (by omega)]
      simp [q, Nat.add_assoc]
    · rw [if_neg q, f220_28, zlet, nI_1, show nI c + 0 = nI c from Int32.add_zero _, ih (k + 1) c j (by omega) (by omega)]
      simp [q]
/-- how many tasks are in a state -/
theorem inst_ok {a : Nat} (hn : 20 ≤ n) (hR : rR G x y s t) (hA : rA G s t) (h8 : G 6 8 ≤ 8) : f81 n (nI a) s = some (nI (zct (fun i => decide (s.1 (1036 + 3 * i) 3 = nI a)) (G 6 8) 0), s) := by
  have := inst_L (n := n) (a := a) hA.2.2.2.2.2.2.2.1 h8 hR.2.2.2.2.2.2 (G 6 8) 0 0 n (by omega) (by omega)
  rw [Nat.zero_add] at this
  exact this
theorem ready_ok (hn : 20 ≤ n) (hR : rR G x y s t) (hN : tN G x y s t) : f220 n t = some (nI (zct (fun i => decide (t.1 1225 i = 1)) (G 6 8) 0), t) := by
  have h8 := (hN.1 8 (by decide)).2.2
  have := ready_L (n := n) hR.2.2.2.2.2.1 (gck12 hR.2.1) (hN.1 8 (by decide)).2.1 h8 (G 6 8) 0 0 n (by omega) (by omega)
  rw [Nat.zero_add] at this
  exact this
theorem rT_st {i : Nat} (hT : rT G W F x s t i) : s.1 (1036 + 3 * i) 3 = t.1 1225 i := by
  obtain ⟨-, ⟨a, k, -, h1, h2, -⟩, -⟩ := hT
  rw [h1, h2]
theorem ready_eq (hT : ∀ i, i < 8 → i ≠ 8 → rT G W F x s t i) (h8 : G 6 8 ≤ 8) : zct (fun i => decide (t.1 1225 i = 1)) (G 6 8) 0 = zct (fun i => decide (s.1 (1036 + 3 * i) 3 = nI 1)) (G 6 8) 0 :=
  zct_eq _ 0 (fun i _ hi => by rw [rT_st (hT i (by omega) (by omega))]; rfl)
theorem ea_count (hn : 20 ≤ n) (h : eR G W F B C x y s t) (a : Int32) : eq2 (f158 n a) (f285 n a) s t := by
  obtain ⟨hr, hr2, hx, hR, hX, ⟨hA, hB, -, -, -, -, -, -, -, hH, -⟩, -, hT, -⟩ := h
  have e6 := size_ok (n := n) (s := s) hn
  have e6' := scheds_ok (n := n) (t := t) hn
  have h8 := (hX.1.1 8 (by decide)).2.2
  have e7 : f81 n 1 s = _ := inst_ok (a := 1) hn hR hA h8
  have e7' := ready_ok hn hR hX.1
  rw [sch_eq hH] at e6'
  rw [ready_eq hT h8] at e7'
  obtain ⟨a1, -, a3, a4, a5, a6, a7, -⟩ := hA
  obtain ⟨⟨m1, -, b1, b2, -⟩, ⟨m2, -, b3, b4, -⟩, -⟩ := hB
  unfold eq2
  simp only [f158, f285, f159, hr, hr2, show ¬ (1 : Int32) = 0 by decide, if_false, e6, e6', e7, e7', gy1, a1, a3, a4, a5, a6, a7, b1, b2, b3, b4]
  by_cases q0 : a = 0
  · exact ⟨_, by simp only [q0, gy1, if_true]; rfl, by simp only [q0, if_true]⟩
  by_cases q1 : a = 1
  · exact ⟨_, by simp only [q1, gy1, if_true, show ¬ (1 : Int32) = 0 by decide, if_false]; rfl, by simp only [q1, if_true, show ¬ (1 : Int32) = 0 by decide, if_false]⟩
  by_cases q2 : a = 2
  · exact ⟨_, by simp only [q2, gy1, if_true, show ¬ (2 : Int32) = 0 by decide, if_false, show ¬ (2 : Int32) = 1 by decide, if_false]; rfl, by simp only [q2, if_true, show ¬ (2 : Int32) = 0 by decide, if_false, show ¬ (2 : Int32) = 1 by decide, if_false]⟩
  by_cases q3 : a = 3
  · exact ⟨_, by simp only [q3, gy1, if_true, show ¬ (3 : Int32) = 0 by decide, if_false, show ¬ (3 : Int32) = 1 by decide, if_false, show ¬ (3 : Int32) = 2 by decide, if_false]; rfl, by simp only [q3, if_true, show ¬ (3 : Int32) = 0 by decide, if_false, show ¬ (3 : Int32) = 1 by decide, if_false, show ¬ (3 : Int32) = 2 by decide, if_false]⟩
  by_cases q4 : a = 4
  · exact ⟨_, by simp only [q4, gy1, if_true, show ¬ (4 : Int32) = 0 by decide, if_false, show ¬ (4 : Int32) = 1 by decide, if_false, show ¬ (4 : Int32) = 2 by decide, if_false, show ¬ (4 : Int32) = 3 by decide, if_false]; rfl, by simp only [q4, if_true, show ¬ (4 : Int32) = 0 by decide, if_false, show ¬ (4 : Int32) = 1 by decide, if_false, show ¬ (4 : Int32) = 2 by decide, if_false, show ¬ (4 : Int32) = 3 by decide, if_false]⟩
  by_cases q5 : a = 5
  · exact ⟨_, by simp only [q5, gy1, if_true, show ¬ (5 : Int32) = 0 by decide, if_false, show ¬ (5 : Int32) = 1 by decide, if_false, show ¬ (5 : Int32) = 2 by decide, if_false, show ¬ (5 : Int32) = 3 by decide, if_false, show ¬ (5 : Int32) = 4 by decide, if_false]; rfl, by simp only [q5, if_true, show ¬ (5 : Int32) = 0 by decide, if_false, show ¬ (5 : Int32) = 1 by decide, if_false, show ¬ (5 : Int32) = 2 by decide, if_false, show ¬ (5 : Int32) = 3 by decide, if_false, show ¬ (5 : Int32) = 4 by decide, if_false]⟩
  by_cases q6 : a = 6
  · exact ⟨_, by simp only [q6, gy1, if_true, show ¬ (6 : Int32) = 0 by decide, if_false, show ¬ (6 : Int32) = 1 by decide, if_false, show ¬ (6 : Int32) = 2 by decide, if_false, show ¬ (6 : Int32) = 3 by decide, if_false, show ¬ (6 : Int32) = 4 by decide, if_false, show ¬ (6 : Int32) = 5 by decide, if_false]; rfl, by simp only [q6, if_true, show ¬ (6 : Int32) = 0 by decide, if_false, show ¬ (6 : Int32) = 1 by decide, if_false, show ¬ (6 : Int32) = 2 by decide, if_false, show ¬ (6 : Int32) = 3 by decide, if_false, show ¬ (6 : Int32) = 4 by decide, if_false, show ¬ (6 : Int32) = 5 by decide, if_false]⟩
  by_cases q7 : a = 7
  · exact ⟨_, by simp only [q7, gy1, if_true, show ¬ (7 : Int32) = 0 by decide, if_false, show ¬ (7 : Int32) = 1 by decide, if_false, show ¬ (7 : Int32) = 2 by decide, if_false, show ¬ (7 : Int32) = 3 by decide, if_false, show ¬ (7 : Int32) = 4 by decide, if_false, show ¬ (7 : Int32) = 5 by decide, if_false, show ¬ (7 : Int32) = 6 by decide, if_false]; rfl, by simp only [q7, if_true, show ¬ (7 : Int32) = 0 by decide, if_false, show ¬ (7 : Int32) = 1 by decide, if_false, show ¬ (7 : Int32) = 2 by decide, if_false, show ¬ (7 : Int32) = 3 by decide, if_false, show ¬ (7 : Int32) = 4 by decide, if_false, show ¬ (7 : Int32) = 5 by decide, if_false, show ¬ (7 : Int32) = 6 by decide, if_false]⟩
  by_cases q8 : a = 8
  · exact ⟨_, by simp only [q8, gy1, if_true, show ¬ (8 : Int32) = 0 by decide, if_false, show ¬ (8 : Int32) = 1 by decide, if_false, show ¬ (8 : Int32) = 2 by decide, if_false, show ¬ (8 : Int32) = 3 by decide, if_false, show ¬ (8 : Int32) = 4 by decide, if_false, show ¬ (8 : Int32) = 5 by decide, if_false, show ¬ (8 : Int32) = 6 by decide, if_false, show ¬ (8 : Int32) = 7 by decide, if_false]; rfl, by simp only [q8, if_true, show ¬ (8 : Int32) = 0 by decide, if_false, show ¬ (8 : Int32) = 1 by decide, if_false, show ¬ (8 : Int32) = 2 by decide, if_false, show ¬ (8 : Int32) = 3 by decide, if_false, show ¬ (8 : Int32) = 4 by decide, if_false, show ¬ (8 : Int32) = 5 by decide, if_false, show ¬ (8 : Int32) = 6 by decide, if_false, show ¬ (8 : Int32) = 7 by decide, if_false]⟩
  by_cases q9 : a = 9
  · exact ⟨_, by simp only [q9, gy1, if_true, show ¬ (9 : Int32) = 0 by decide, if_false, show ¬ (9 : Int32) = 1 by decide, if_false, show ¬ (9 : Int32) = 2 by decide, if_false, show ¬ (9 : Int32) = 3 by decide, if_false, show ¬ (9 : Int32) = 4 by decide, if_false, show ¬ (9 : Int32) = 5 by decide, if_false, show ¬ (9 : Int32) = 6 by decide, if_false, show ¬ (9 : Int32) = 7 by decide, if_false, show ¬ (9 : Int32) = 8 by decide, if_false]; rfl, by simp only [q9, if_true, show ¬ (9 : Int32) = 0 by decide, if_false, show ¬ (9 : Int32) = 1 by decide, if_false, show ¬ (9 : Int32) = 2 by decide, if_false, show ¬ (9 : Int32) = 3 by decide, if_false, show ¬ (9 : Int32) = 4 by decide, if_false, show ¬ (9 : Int32) = 5 by decide, if_false, show ¬ (9 : Int32) = 6 by decide, if_false, show ¬ (9 : Int32) = 7 by decide, if_false, show ¬ (9 : Int32) = 8 by decide, if_false]⟩
  exact ⟨-2, by simp only [q0, q1, q2, q3, q4, q5, q6, q7, q8, q9, if_false, gy1], by simp only [q0, q1, q2, q3, q4, q5, q6, q7, q8, q9, if_false]⟩
theorem ea_logged (hB : B < 2 ^ 31) (h : eR G W F B C x y s t) (a : Int32) : eq2 (f154 n a) (f283 n a) s t := by
  obtain ⟨hr, hr2, hx, -, -, ⟨-, ⟨⟨m, hm, b1, b2, b3⟩, -⟩, -⟩, -⟩ := h
  by_cases ha : a < 0
  · exact ⟨0, by simp [f154, f155, hr, ha, gy1], by simp [f283, f283_26, hr2, ha]⟩
  · obtain ⟨k, hk, rfl⟩ := nI_of ha
    have l1 := nltN hk (show m < 2 ^ 31 by omega)
    have l2 : nI k < 200 ↔ k < 200 := nltN (b := 200) hk (by decide)
    by_cases hl : k < m
    · by_cases hl2 : k < 200
      · have z : zin? (nI k) 200 = true := (zinN hk).mpr hl2
        exact ⟨s.1 1031 k, by simp [f154, f155, hr, ha, gy1, b1, l1, hl, l2, hl2, z, nxN hk], by simp [f283, hr2, ha, b2, l1, hl, l2, hl2, z, nxN hk, b3 k hl hl2]⟩
      · exact ⟨0, by simp [f154, f155, hr, ha, gy1, b1, l1, hl, l2, hl2], by simp [f283, f283_26, hr2, ha, b2, l1, hl, l2, hl2]⟩
    · exact ⟨0, by simp [f154, f155, hr, ha, gy1, b1, l1, hl], by simp [f283, f283_26, hr2, ha, b2, l1, hl]⟩
theorem ea_induced (hB : B < 2 ^ 31) (h : eR G W F B C x y s t) (a b : Int32) : eq2 (f156 n a b) (f284 n a b) s t := by
  obtain ⟨hr, hr2, hx, -, -, ⟨-, ⟨-, ⟨m, hm, b1, b2, b3⟩, -⟩, -⟩, -⟩ := h
  by_cases ha : a < 0
  · exact ⟨-1, by simp [f156, f157, f157_31, f157_32, hr, ha, gy1], by simp [f284, hr2, ha]⟩
  · obtain ⟨k, hk, rfl⟩ := nI_of ha
    have l1 := nltN hk (show m < 2 ^ 31 by omega)
    have l2 : nI k < 100 ↔ k < 100 := nltN (b := 100) hk (by decide)
    by_cases hl : k < m
    · by_cases hl2 : k < 100
      · have z : zin? (nI k) 100 = true := (zinN hk).mpr hl2
        obtain ⟨d0, d1, d2⟩ := b3 k hl hl2
        have key : ∀ j, j < 3 → f157 n (nI k) (nI j) s = some (s.1 1032 (3 * k + j), s) := by
          intro j hj
          have w : zin? (nI (3 * k + j)) 300 = true := (zinN (by omega)).mpr (by omega)
          have l3 : ¬ (2 : Int32) < nI j := fun q => by have := (nltN (a := 2) (b := j) (by decide) (by omega)).mp q; omega
          simp [f157, f157_32, ha, b1, l1, hl, l2, hl2, nIM0 (show j < 2 ^ 31 by omega), l3, nLmul, naddN, w, nxN (show 3 * k + j < 2 ^ 31 by omega)]
        by_cases b0 : b = 0
        · subst b0
          exact ⟨s.1 1032 (3 * k), by simp [f156, hr, show f157 n (nI k) 0 s = _ from key 0 (by decide), gy1], by simp [f284, hr2, ha, b2, l1, hl, l2, hl2, z, nxN hk, d0]⟩
        · by_cases b1' : b = 1
          · subst b1'
            exact ⟨s.1 1032 (3 * k + 1), by simp [f156, hr, show f157 n (nI k) 1 s = _ from key 1 (by decide), gy1], by simp [f284, hr2, ha, b2, l1, hl, l2, hl2, z, nxN hk, d1]⟩
          · by_cases b2' : b = 2
            · subst b2'
              exact ⟨s.1 1032 (3 * k + 2), by simp [f156, hr, show f157 n (nI k) 2 s = _ from key 2 (by decide), gy1], by simp [f284, hr2, ha, b2, l1, hl, l2, hl2, z, nxN hk, d2]⟩
            · refine ⟨-1, ?_, by simp [f284, hr2, ha, b2, l1, hl, l2, hl2, b0, b1', b2']⟩
              by_cases bn : b < 0
              · simp [f156, f157, f157_31, f157_32, hr, ha, gy1, b1, l1, hl, l2, hl2, bn]
              · have : (2 : Int32) < b := by
                  obtain ⟨j, hj, rfl⟩ := nI_of bn
                  have e0 : j ≠ 0 := fun q => b0 (by rw [q]; rfl)
                  have e1 : j ≠ 1 := fun q => b1' (by rw [q]; rfl)
                  have e2 : j ≠ 2 := fun q => b2' (by rw [q]; rfl)
                  exact (nltN (a := 2) (by decide) hj).mpr (by omega)
                simp [f156, f157, f157_31, f157_32, hr, ha, gy1, b1, l1, hl, l2, hl2, bn, this]
      · exact ⟨-1, by simp [f156, f157, f157_31, f157_32, hr, ha, gy1, b1, l1, hl, l2, hl2], by simp [f284, hr2, ha, b2, l1, hl, l2, hl2]⟩
    · exact ⟨-1, by simp [f156, f157, f157_31, f157_32, hr, ha, gy1, b1, l1, hl], by simp [f284, hr2, ha, b2, l1, hl]⟩
theorem isT_neg {a : Int32} (h : a < 0) : f270 n a t = some (0, t) := by simp [f270, h]
theorem isT_N {a c : Nat} (hy : t.2.2 1132 11 = some y) (c12 : zck 12 y = true) (hc : t.1 (y + 4) 8 = nI c) (h8 : c ≤ 8) (ha : a < 2 ^ 31) : f270 n (nI a) t = some (if a < c then 1 else 0, t) := by
  unfold f270
  rw [if_neg (nIM0 ha), tasks_ok hy c12, gy1, hc]
  simp only [nltN ha (show c < 2 ^ 31 by omega)]
  split <;> rfl
theorem ea_schedule (h : eR G W F B C x y s t) (a b c : Int32) : eq2 (f149 n a b c) (f280 n a b c) s t := by
  obtain ⟨c9, c12, hy⟩ := eR_c h
  obtain ⟨h1, h2, h3⟩ := eR_n h 8 (by decide)
  obtain ⟨hr, hr2, hx, -, -, ⟨-, -, -, -, -, -, -, -, -, hH, -⟩, -⟩ := h
  by_cases ha : a < 0
  · exact ⟨-1, by simp [f149, hr, hx, grd c9, has_neg ha, gy1], by simp [f280, hr2, isT_neg ha, gy1]⟩
  · obtain ⟨k, hk, rfl⟩ := nI_of ha
    have e1 : f134 n x 8 (nI k) s = some (if k < G 6 8 then 1 else 0, s) := has_N h1 z8_9 hk (by omega)
    have e2 := isT_N (n := n) hy c12 h2 h3 hk
    by_cases hl : k < G 6 8
    · rw [if_pos hl] at e1 e2
      by_cases q1 : b < 0
      · exact ⟨-2, by simp [f149, hr, hx, grd c9, e1, gy1, q1], by simp [f280, hr2, e2, gy1, q1]⟩
      · by_cases q2 : 1 < b
        · exact ⟨-2, by simp [f149, hr, hx, grd c9, e1, gy1, q1, q2], by simp [f280, hr2, e2, gy1, q1, q2]⟩
        · by_cases q3 : c < 0
          · exact ⟨-2, by simp [f149, hr, hx, grd c9, e1, gy1, q1, q2, q3], by simp [f280, hr2, e2, gy1, q1, q2, q3]⟩
          · by_cases q4 : 3 < c
            · exact ⟨-2, by simp [f149, hr, hx, grd c9, e1, gy1, q1, q2, q3, q4], by simp [f280, hr2, e2, gy1, q1, q2, q3, q4]⟩
            · obtain ⟨j, hj, rfl⟩ := nI_of q1
              have j1 : j ≤ 1 := by
                rcases Nat.lt_or_ge 1 j with q | q
                · exact absurd ((nltN (a := 1) (by decide) hj).mpr q) q2
                · exact q
              have z : zin? (nI (2 * k + j)) 16 = true := (zinN (by omega)).mpr (by omega)
              have zz := nxN (show 2 * k + j < 2 ^ 31 by omega)
              unfold eq2
              simp only [f149, hr, hx, grd c9, e1, gy1, q1, q2, q3, q4, f280, hr2, e2, if_true, if_false, show ¬ (1 : Int32) = 0 by decide, f150, f150_15, nLmul, naddN, z, zz, zlet]
              rcases hH.1 (2 * k + j) (by omega) with ⟨u1, u2⟩ | ⟨u1, -, u3, u4, u5, u6, u7⟩
              · by_cases w0 : c = 0
                · exact ⟨-1, by simp [u1, w0, gy1], by simp [u2, w0]⟩
                · by_cases w1 : c = 1
                  · exact ⟨0, by simp [u1, w1, gy1], by simp [u2, w1]⟩
                  · by_cases w2 : c = 2
                    · exact ⟨2147483647, by simp [u1, w2, gy1], by simp [u2, w2]⟩
                    · exact ⟨-1, by simp [u1, w0, w1, w2, gy1], by simp [u2, w0, w1, w2]⟩
              · have um : ¬ s.1 1023 (2 * k + j) = -1 := by
                  rcases u7 with ⟨-, d, e, hd, -, g1, -⟩ | ⟨-, -, -, g1⟩
                  · rw [g1]; exact fun q => (neqM (show d < 2 ^ 31 by omega)).mp q
                  · rw [g1]; decide
                by_cases w0 : c = 0
                · exact ⟨s.1 1023 (2 * k + j), by simp [um, w0, gy1], by simp [u1, w0, u3]⟩
                · by_cases w1 : c = 1
                  · exact ⟨s.1 1024 (2 * k + j), by simp [um, w1, gy1], by simp [u1, w1, u4]⟩
                  · by_cases w2 : c = 2
                    · exact ⟨s.1 1025 (2 * k + j), by simp [um, w2, gy1], by simp [u1, w2, u5]⟩
                    · exact ⟨s.1 1026 (2 * k + j), by simp [um, w0, w1, w2, gy1], by simp [u1, w0, w1, w2, u6]⟩
    · rw [if_neg hl] at e1 e2
      exact ⟨-1, by simp [f149, hr, hx, grd c9, e1, gy1], by simp [f280, hr2, e2, gy1]⟩
end ZEC
