/-! moves of a task along its frames -/
section ZME
variable {G W : Nat → Nat → Nat} {F : Nat → Nat → Nat → Nat} {B C x y n i D : Nat} {s t s2 t2 : zσ}
/-- but for the depth and the procs that are over, for the class -/
def sQ (i : Nat) (s s2 : zσ) : Prop := s2.2 = s.2 ∧ ∀ a k, ¬ (a = 1036 + 3 * i ∧ k = 10) → ¬ (a = 1030 ∧ k = 9) → s2.1 a k = s.1 a k
theorem sQ_rf : sQ i s s := ⟨rfl, fun _ _ _ _ => rfl⟩
theorem sQ_oC (h : sQ i s s2) : oC i s s2 := ⟨h.1, fun a h1 h2 h3 h4 h5 h6 h7 h8 => funext fun k => h.2 a k (by omega) (by omega)⟩
set_option maxHeartbeats 1000000 in
theorem CL_sub (h0 : 0 < D) (h : CL G F W B C x y i (D + 1) s t) (h1 : sQ i s s2) (h2 : sP i t t2) (d1 : t2.1 1235 i = nI D) (d2 : t2.1 1234 i = nI (F i 2 (D - 1))) (d3 : s2.1 (1036 + 3 * i) 10 = nI (F i 2 (D - 1))) (d4 : s2.1 1030 9 = t2.1 1132 27) : CL G F W B C x y i D s2 t2 := by
  have hi := CL_i h
  obtain ⟨hx, ha, hb1, hu, c1, c2, c3, c4, c5, c6, c7, c8, c9, c10, c11⟩ := h
  have hxx := hx.1.1
  have c : ∀ a, a ≠ 1036 + 3 * i → a ≠ 1030 → s2.1 a = s.1 a := fun a q1 q2 => funext fun k => h1.2 a k (by omega) (by omega)
  have m : ∀ a, a ≠ 1235 → a ≠ 1234 → a ≠ 1132 → t2.1 a = t.1 a := fun a q1 q2 q3 => funext fun k => h2.2 a k (by omega) (by omega) (by omega)
  have c30 : ∀ k, k ≠ 9 → s2.1 1030 k = s.1 1030 k := fun k q => h1.2 _ k (by omega) (by omega)
  have m32 : ∀ k, k ≠ 27 → t2.1 1132 k = t.1 1132 k := fun k q => h2.2 _ k (by omega) (by omega) (by omega)
  have k : kT i s s2 t t2 := ⟨fun k q => h1.2 _ k (by omega) (by omega), fun a q1 q2 => by rw [m a (by omega) (by omega) (by omega)]⟩
  obtain ⟨p1, p2, p3, p4, p5, p6⟩ := gP_of hx
  refine ⟨RUNx_gP hi (Or.inl rfl) hx (sQ_oC h1) (sP_oM h2) (fun j _ _ => sG1_rf) ⟨?_, ?_, ?_, ?_, ?_, ?_⟩, kT_a k ha, kT_1 k hb1, kT_u k hi (sQ_oC h1) hu, c1, c2, ?_, d1, h0, by omega, d3, d2, fun d hd => ?_, fun d hd => ?_, fun d hd => ?_⟩
  · obtain ⟨a1, a2, a3, a4, a5, a6, a7, a8⟩ := p1
    unfold rA
    rw [c 1007 (by omega) (by omega), c30 6 (by decide), c30 7 (by decide), c30 5 (by decide), c30 8 (by decide), m32 20 (by decide), m32 19 (by decide), m32 21 (by decide), m32 22 (by decide), m32 25 (by decide), m32 26 (by decide)]
    rw [c 1034 (by omega) (by omega), m 1248 (by decide) (by decide) (by decide), m32 17 (by decide), m32 13 (by decide), m32 1 (by decide), m32 2 (by decide), m32 18 (by decide)]
    exact ⟨a1, a2, a3, a4, a5, a6, d4, a8⟩
  · unfold rB at p2 ⊢
    rw [c 1007 (by omega) (by omega), c 1031 (by omega) (by omega), c 1032 (by omega) (by omega), c30 2 (by decide), c30 3 (by decide), m32 23 (by decide), m32 24 (by decide), m 1221 (by decide) (by decide) (by decide), m 1222 (by decide) (by decide) (by decide), m 1223 (by decide) (by decide) (by decide), m 1224 (by decide) (by decide) (by decide)]
    exact p2
  · unfold rV at p3 ⊢
    rw [c 1010 (by omega) (by omega), m 1207 (by decide) (by decide) (by decide)]
    exact p3
  · unfold rH at p4 ⊢
    rw [c 1007 (by omega) (by omega), c 1023 (by omega) (by omega), c 1024 (by omega) (by omega), c 1025 (by omega) (by omega), c 1026 (by omega) (by omega), m 1240 (by decide) (by decide) (by decide), m 1241 (by decide) (by decide) (by decide), m 1242 (by decide) (by decide) (by decide), m 1243 (by decide) (by decide) (by decide), m 1244 (by decide) (by decide) (by decide)]
    exact p4
  · unfold rC at p5 ⊢
    rw [c 1007 (by omega) (by omega), m32 30 (by decide)]
    exact p5
  · unfold rE at p6 ⊢
    rw [c 1009 (by omega) (by omega), c30 4 (by decide), m32 29 (by decide), m32 28 (by decide), m32 30 (by decide)]
    exact p6
  · rw [k.1 3 (by decide)]; exact c3
  · exact rK_P h2 (c9 d (by omega))
  · have hq := c10 d (by omega)
    unfold rQ at hq ⊢
    rw [c (1036 + 3 * i + 1) (by omega) (by omega), c (x + 22) (by omega) (by omega), m 1237 (by decide) (by decide) (by decide)]
    obtain ⟨a1, a2, a3, a4, a5⟩ := hq
    exact ⟨a1, a2, a3, fun q => a4 (Or.inr (by omega)), fun q1 q2 => a5 (by omega) q2⟩
  · have hq := c11 d (by omega)
    unfold rM at hq ⊢
    rw [c (1036 + 3 * i + 2) (by omega) (by omega), m 1239 (by decide) (by decide) (by decide)]
    exact hq
/-- a frame of an if or while goes -/
theorem CL_popA (h0 : 0 < D) (h : CL G F W B C x y i (D + 1) s t) (hk : G 2 (G 7 (F i 0 D)) = 2 ∨ G 2 (G 7 (F i 0 D)) = 3) : ∃ t2, f215 n (nI i) t = some (0, t2) ∧ CL G F W B C x y i D s t2 ∧ F i 1 (D - 1) = G 3 (G 7 (F i 0 D)) ∧ t2.1 1237 (140 * i + (D - 1)) = nI (F i 1 (D - 1)) ∧ F i 2 (D - 1) = F i 2 D ∧ oM i t t2 := by
  have hi := CL_i h
  obtain ⟨hx, ha, hb1, hu, c1, c2, c3, c4, c5, c6, c7, c8, c9, c10, c11⟩ := id h
  rw [Nat.add_sub_cancel] at c7 c8
  have hK := c9 D (by omega)
  obtain ⟨t2, e1, o1, d1, p1, v1⟩ := m_pop (n := n) hi c4 c6 hK c8
  obtain ⟨-, -, -, -, -, hc⟩ := hK
  have hz : zL F i D = F i 2 (D - 1) := by
    obtain ⟨d, rfl⟩ : ∃ d, D = d + 1 := ⟨D - 1, by omega⟩
    rfl
  rcases hc with ⟨q, -⟩ | ⟨-, q, -⟩ | ⟨-, -, q1, q2, q3⟩
  · omega
  · omega
  · rw [hz] at p1 v1
    rw [q2] at e1
    have hA := hx.2.2.1.1
    refine ⟨t2, e1, CL_sub h0 h sQ_rf o1 d1 p1 (by rw [c7, q1]) ?_, q3, ?_, q1.symm, sP_oM o1⟩
    · rw [v1, q1, Int32.add_sub_cancel]
      exact hA.2.2.2.2.2.2.1
    · rw [o1.2 1237 _ (by omega) (by omega) (by omega)]
      exact (c10 (D - 1) (by omega)).2.2.1
/-- a frame of a proc goes -/
theorem CL_popB (h0 : 0 < D) (h : CL G F W B C x y i (D + 1) s t) (hk : G 2 (G 7 (F i 0 D)) = 1) : ∃ t2, f215 n (nI i) t = some (1, t2) ∧ CL G F W B C x y i D (sI (sI s (1036 + 3 * i) 10 (nI (F i 2 (D - 1)))) 1030 9 (s.1 1030 9 + 1)) t2 ∧ t2.1 1237 (140 * i + (D - 1)) = nI (F i 1 (D - 1)) ∧ F i 2 (D - 1) + 1 = F i 2 D ∧ s.1 (1036 + 3 * i + 1) (F i 2 (D - 1)) = nI (F i 1 (D - 1)) ∧ G 10 (F i 1 (D - 1)) = 3 ∧ oM i t t2 := by
  have hi := CL_i h
  obtain ⟨hx, ha, hb1, hu, c1, c2, c3, c4, c5, c6, c7, c8, c9, c10, c11⟩ := id h
  rw [Nat.add_sub_cancel] at c7 c8
  have hK := c9 D (by omega)
  obtain ⟨t2, e1, o1, d1, p1, v1⟩ := m_pop (n := n) hi c4 c6 hK c8
  obtain ⟨-, -, -, -, -, hc⟩ := hK
  have hz : zL F i D = F i 2 (D - 1) := by
    obtain ⟨d, rfl⟩ : ∃ d, D = d + 1 := ⟨D - 1, by omega⟩
    rfl
  rcases hc with ⟨q, -⟩ | ⟨-, -, q1, q2, q3⟩ | ⟨-, q, -⟩
  · omega
  · rw [hz] at p1 v1
    rw [q2] at e1
    have hA := hx.2.2.1.1
    obtain ⟨b1, b2, b3, b4, b5⟩ := c10 (D - 1) (by omega)
    have e : D - 1 + 1 = D := by omega
    refine ⟨t2, e1, CL_sub h0 h ⟨rfl, fun a k h1 h2 => by rw [hIx h2, hIx h1]⟩ o1 d1 p1 (by simp (disch := omega) only [hIo, hIe]) ?_, ?_, q1.symm, b4 (Or.inr (by rw [e, q1])), q3, sP_oM o1⟩
    · rw [hIe, v1, q1, ← nI_1, Int32.add_comm (nI (F i 2 (D - 1))) 1, ← Int32.add_assoc, Int32.add_sub_cancel, hA.2.2.2.2.2.2.1]
    · rw [o1.2 1237 _ (by omega) (by omega) (by omega)]
      exact b3
  · omega
/-- the frame of the proc that a task is in -/
theorem m_scope (hi : i < 8) (hK : ∀ d, d < D → rK G F i d t) : ∀ (d j : Nat), d < D → D ≤ 108 → d < j → 0 < F i 2 d → ∃ e, e ≤ d ∧ f218_6 n j (nI (140 * i + d)) t = some (nI (140 * i + e), t) ∧ G 2 (G 7 (F i 0 e)) = 1 ∧ F i 2 e = F i 2 d ∧ ∀ c, e < c → c ≤ d → ¬ G 2 (G 7 (F i 0 c)) = 1 := by
  intro d
  induction d with
  | zero =>
    intro j h1 hD h2 h3
    obtain ⟨-, -, -, -, -, hc⟩ := hK 0 h1
    rcases hc with ⟨-, q, -⟩ | ⟨q, -⟩ | ⟨q, -⟩ <;> omega
  | succ d ih =>
    intro j h1 hD h2 h3
    obtain ⟨j, rfl⟩ : ∃ j0, j = j0 + 1 := ⟨j - 1, by omega⟩
    have z : zin? (nI (140 * i + (d + 1))) 1120 = true := (zinN (by omega)).mpr (by omega)
    obtain ⟨-, -, -, -, -, hc⟩ := hK (d + 1) h1
    rw [f218_6, if_pos z, nxN (show 140 * i + (d + 1) < 2 ^ 31 by omega)]
    rcases hc with ⟨q, -⟩ | ⟨-, q1, q2, q3, -⟩ | ⟨-, q1, q2, q3, -⟩
    · omega
    · refine ⟨d + 1, Nat.le_refl _, ?_, q1, rfl, fun c h4 h5 => by omega⟩
      rw [q3, if_neg (by decide)]
    · rw [Nat.add_sub_cancel] at q2
      obtain ⟨e, e1, e2, e3, e4, e5⟩ := ih j (by omega) hD (by omega) (by omega)
      refine ⟨e, by omega, ?_, e3, by omega, fun c h4 h5 => ?_⟩
      · rw [q3, if_pos rfl, show 140 * i + (d + 1) = (140 * i + d) + 1 by omega, naddM]
        exact e2
      · by_cases q : c = d + 1
        · rw [q]; omega
        · exact e5 c h4 (by omega)
end ZME
