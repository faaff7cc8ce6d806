/-! behind a statement; into a block -/
section ZON
variable {G W : Nat → Nat → Nat} {F : Nat → Nat → Nat → Nat} {B C x y n i D : Nat} {s t : zσ}
/-- a task that does something, out of a run -/
theorem CL_of (h : RUN G F W B C x y s t) (hi : i < 8) (hw : ¬ (s.1 (1036 + 3 * i) 3 = 0 ∨ s.1 (1036 + 3 * i) 3 = 3 ∨ s.1 (1036 + 3 * i) 3 = 4)) : CL G F W B C x y i (F i 3 0) s t ∧ F i 1 (F i 3 0 - 1) < G 0 0 ∧ G 1 (F i 1 (F i 3 0 - 1)) = F i 0 (F i 3 0 - 1) ∧ t.1 1237 (140 * i + (F i 3 0 - 1)) = nI (F i 1 (F i 3 0 - 1)) ∧ s.1 (1036 + 3 * i + 1) (F i 2 (F i 3 0 - 1)) = nI (F i 1 (F i 3 0 - 1)) := by
  have h0 := zAc_0 hw
  obtain ⟨a1, a2, a3⟩ := h.2.2.2.2.1 i hi (by omega)
  obtain ⟨b1, b2, b3, b4, b5, b6⟩ := a3
  have hD : 0 < F i 3 0 := by
    rcases Nat.eq_zero_or_pos (F i 3 0) with q | q
    · exact absurd (b3.mpr q) h0
    · exact q
  obtain ⟨c1, c2, c3, -⟩ := b5 hD
  have hq := (b6 (F i 3 0 - 1) (by omega)).2.1
  have hi8 : i < G 6 8 := by
    obtain ⟨a, k, -, e1, -, e3, -⟩ := a2
    rcases Nat.lt_or_ge i (G 6 8) with q | q
    · exact q
    · rw [e1, e3 q] at h0
      exact absurd rfl h0
  exact ⟨⟨RUN_x h, a1, a2, fun j hj hji => ⟨h.2.2.2.2.2 i j hi hj (by omega) (by omega), h.2.2.2.2.2 j i hj hi (by omega) (by omega)⟩, hi8, c1, hw, b1, hD, b2, c2, c3, fun d hd => (b6 d hd).1, fun d hd => (b6 d (by omega)).2.1, fun d hd => (b6 d hd).2.2⟩, hq.1, hq.2.1, hq.2.2.1, hq.2.2.2.1 (Or.inl (by omega))⟩
/-- onward and goOn -/
theorem onward_ok {r : Nat} (hn : 1000 ≤ n) (hC : C < 900000000) (h : CL G F W B C x y i D s t) (hr : r < G 0 0) (hb : G 1 r = F i 0 (D - 1)) (hh : t.1 1237 (140 * i + (D - 1)) = nI r) : mR G W B C x y i s t (f131 n (1036 + 3 * i) (nI r) s) (f237 n (nI i) t) := by
  have hi := CL_i h
  obtain ⟨hx, ha, hb1, hu, c1, c2, c3, c4, c5, c6, c7, c8, c9, c10, c11⟩ := id h
  obtain ⟨⟨hxx, hyy, ⟨r8, -⟩, r9, r10, r11, rt⟩, ⟨hN, hDD, hB, hS⟩, -⟩ := id hx
  obtain ⟨k9, k6, k0⟩ := gck9 hxx
  have k12 := gck12 hyy
  have n2 := hN.2.2.1.2.2.1
  obtain ⟨⟨w1, w2, w3, w4⟩, w5, -⟩ := hS r hr
  have zr : zin? (nI r) 200 = true := (zinN (by omega)).mpr (by omega)
  have zd : zin? (nI (140 * i + (D - 1))) 1120 = true := (zinN (by omega)).mpr (by omega)
  have top := m_top2 (n := n) hi c4 c5 c6
  have l8 := (c9 (D - 1) (by omega)).2.2.2.1
  have z9 : zin? (nI (F i 2 (D - 1))) 9 = true := (zinN (by omega)).mpr (by omega)
  have eM : f237 n (nI i) t = yb0 (f213 n (f219 n 4) (nI i) (sI t 1237 (140 * i + (D - 1)) (t.1 (y + 16) r))) fun u7 => some u7 := by
    simp (disch := omega) only [f237, zlet, ↓reduceIte, top, gy1, r11, grd k12, zd, nxN, hh, zr]
  have e7 : s.1 (x + 19 + 7) r = nI (G 1 r) := w2
  rw [eM]
  unfold f213
  rcases w5 with ⟨-, f1, f2⟩ | ⟨q, -, f0, f3, f1, f2⟩
  · have e6 : s.1 (x + 19 + 6) r = -1 := f1
    have l12 := (hB (G 1 r) w1).1.2.2.2.2
    obtain ⟨s2, t2, F2, W2, C2, a1, a2, a3, a4, a5, a6⟩ := close_ok (n := n) 3 (by omega) hC 108 D (G 1 r) 0 n n s _ (by omega) (CL_hand (v := -1) h) w1 (by rw [hb]) hIe (by omega) (by omega) (by omega)
    refine ⟨s2, t2, F2, W2, C2, ?_, ?_, a3, a4, a5, oM_tr (oM_hand (by omega)) a6.1, a6.2⟩
    · have a1' : f130_9 n n (1036 + 3 * i) (nI (G 1 r)) 0 0 s = some s2 := a1
      simp (disch := omega) only [f131, f130, zlet, ↓reduceIte, r9, grd k6, zr, nxN, e6, e7, a1', gy0]
    · rw [f2, a2]
      rfl
  · have e6 : s.1 (x + 19 + 6) r = nI q := f1
    have e6' : ¬ nI q = -1 := fun e => (neqM (show q < 2 ^ 31 by omega)).mp e
    obtain ⟨m, rfl⟩ : ∃ m, n = m + 1 := ⟨n - 1, by omega⟩
    refine ⟨sI s (1036 + 3 * i + 1) (F i 2 (D - 1)) (nI q), sI t 1237 (140 * i + (D - 1)) (nI q), _, W, C, ?_, ?_, CL_done (r := q) (CL_at (CL_hand h)) f0 (by rw [f3, hb]) hIe hIe, by omega, oC_at, oM_hand (by omega), by rw [hIo (by omega)]; exact zAc_w h.2.2.2.2.2.2.1⟩
    · simp (disch := omega) only [f131, zlet, ↓reduceIte, r9, grd k6, zr, nxN, e6, e6', c7, z9]
    · rw [f2, m_settle1 (D := D) (r := q) hi (by rw [hIo (by decide)]; exact c4) c5 c6 hIe (by omega)]
      rfl
/-- one frame more -/
def Fp (F : Nat → Nat → Nat → Nat) (i D r b l : Nat) : Nat → Nat → Nat → Nat := fun j a d => if j = i ∧ a = 0 ∧ d = D then b else if j = i ∧ a = 2 ∧ d = D then l else if j = i ∧ a = 1 ∧ d + 1 = D then r else F j a d
/-- the frame of an if's or while's block -/
theorem CL_pushA {r b : Nat} {v : Int32} (h : CL G F W B C x y i D s t) (hr : r < G 0 0) (hb : G 1 r = F i 0 (D - 1)) (hh : t.1 1237 (140 * i + (D - 1)) = nI r) (hb0 : b < G 0 1) (hb1 : G 2 b = 2 ∨ G 2 b = 3) (hb2 : G 3 b = r) : CL G (Fp F i D r b (F i 2 (D - 1))) W B C x y i (D + 1) s (sI (sI (sI (sI t 1236 (140 * i + D) (nI b)) 1237 (140 * i + D) v) 1238 (140 * i + D) 0) 1235 i (nI (D + 1))) := by
  have hi := CL_i h
  obtain ⟨hx, ha, hb3, hu, c1, c2, c3, c4, c5, c6, c7, c8, c9, c10, c11⟩ := id h
  obtain ⟨⟨hxx, -⟩, ⟨-, -, hB, -⟩, -⟩ := id hx
  obtain ⟨⟨-, -, -, l1, l12⟩, -, -, -, q23, -⟩ := hB b hb0
  obtain ⟨-, g4, g5, g7, -⟩ := q23 hb1
  rw [hb2, hb] at g4 g5
  have f0 : ∀ d, d ≠ D → Fp F i D r b (F i 2 (D - 1)) i 0 d = F i 0 d := fun d hd => by simp [Fp, hd]
  have f0' : Fp F i D r b (F i 2 (D - 1)) i 0 D = b := by simp [Fp]
  have f1 : ∀ d, d + 1 ≠ D → Fp F i D r b (F i 2 (D - 1)) i 1 d = F i 1 d := fun d hd => by simp [Fp, hd]
  have f1' : ∀ d, d + 1 = D → Fp F i D r b (F i 2 (D - 1)) i 1 d = r := fun d hd => by simp [Fp, hd]
  have f2 : ∀ d, d ≠ D → Fp F i D r b (F i 2 (D - 1)) i 2 d = F i 2 d := fun d hd => by simp [Fp, hd]
  have f2' : Fp F i D r b (F i 2 (D - 1)) i 2 D = F i 2 (D - 1) := by simp [Fp]
  have hK1 := c9 (D - 1) (by omega)
  have o : oM i t (sI (sI (sI (sI t 1236 (140 * i + D) (nI b)) 1237 (140 * i + D) v) 1238 (140 * i + D) 0) 1235 i (nI (D + 1))) := ⟨rfl, fun _ _ => rfl, fun a _ _ _ => by simp (disch := omega) only [hIo], fun a j _ _ _ => by simp (disch := omega) only [hIx], fun a j d _ _ _ _ => by simp (disch := omega) only [hIx], fun j k _ _ => by simp (disch := omega) only [hIx], fun a _ _ => by simp (disch := omega) only [hIo], by simp (disch := omega) only [hIo, hIk]⟩
  have k : kT i s s t (sI (sI (sI (sI t 1236 (140 * i + D) (nI b)) 1237 (140 * i + D) v) 1238 (140 * i + D) 0) 1235 i (nI (D + 1))) := ⟨fun k _ => rfl, fun _ _ _ => by simp (disch := omega) only [hIx]⟩
  obtain ⟨p1, p2, p3, p4, p5, p6⟩ := gP_of hx
  refine ⟨RUNx_gP hi (Or.inl rfl) hx oC_rf o (fun j _ hj => ⟨fun a d => by simp [Fp, hj], fun _ _ => rfl, Nat.le_refl _, Nat.le_refl _⟩) ⟨?_, ?_, ?_, ?_, ?_, ?_⟩, kT_a k ha, kT_1 k hb3, kT_u k hi oC_rf hu, c1, c2, c3, hIe, by omega, ?_, ?_, ?_, fun d hd => ?_, fun d hd => ?_, fun d hd => ?_⟩
  · unfold rA at p1 ⊢; simp (disch := omega) only [hIo]; exact p1
  · unfold rB at p2 ⊢; simp (disch := omega) only [hIo]; exact p2
  · unfold rV at p3 ⊢; simp (disch := omega) only [hIo]; exact p3
  · unfold rH at p4 ⊢; simp (disch := omega) only [hIo]; exact p4
  · unfold rC at p5 ⊢; simp (disch := omega) only [hIo]; exact p5
  · unfold rE at p6 ⊢; simp (disch := omega) only [hIo]; exact p6
  · have := hK1.2.2.1
    have := hK1.2.2.2.1
    omega
  · rw [Nat.add_sub_cancel, f2']; exact c7
  · rw [Nat.add_sub_cancel, f2']; simp (disch := omega) only [hIo]; exact c8
  · by_cases q : d = D
    · subst q
      unfold rK
      rw [f0', f2']
      refine ⟨hb0, by simp (disch := omega) only [hIo, hIe], ?_, hK1.2.2.2.1, by rw [g5]; exact hK1.2.2.2.2.1, Or.inr (Or.inr ⟨c5, by rw [g7]; exact hb1, by rw [f2 _ (by omega)], by simp (disch := omega) only [hIo, hIe], by rw [f1' _ (by omega), g7, hb2]⟩)⟩
      have := hK1.2.2.1
      omega
    · have hq := c9 d (by omega)
      unfold rK at hq ⊢
      rw [f0 d q, f2 d q]
      by_cases q0 : d = 0
      · subst q0
        simp (disch := omega) only [hIo, hIk]
        obtain ⟨a1, a2, a3, a4, a5, a6⟩ := hq
        refine ⟨a1, a2, a3, a4, a5, ?_⟩
        rcases a6 with q | ⟨q, -⟩ | ⟨q, -⟩
        · exact Or.inl ⟨trivial, q.2⟩
        · omega
        · omega
      · rw [f2 (d - 1) (by omega), f1 (d - 1) (by omega)]
        simp (disch := omega) only [hIo, hIk]
        exact hq
  · by_cases q : d + 1 = D
    · unfold rQ
      rw [f1' d q, f0 d (by omega), f2 d (by omega), q, f2', f0']
      have e : D - 1 = d := by omega
      rw [e] at hb hh ⊢
      refine ⟨hr, hb, ?_, fun q2 => by omega, fun _ q2 => by omega⟩
      simp (disch := omega) only [hIo, hIk]
      exact hh
    · have hq := c10 d (by omega)
      unfold rQ at hq ⊢
      rw [f1 d q, f0 d (by omega), f2 d (by omega), f2 (d + 1) (by omega), f0 (d + 1) (by omega)]
      simp (disch := omega) only [hIo, hIk]
      obtain ⟨a1, a2, a3, a4, a5⟩ := hq
      exact ⟨a1, a2, a3, fun q => a4 (by omega), fun q1 q2 => a5 (by omega) q2⟩
  · by_cases q : d = D
    · subst q
      unfold rM
      rw [f0', g7]
      intro q
      omega
    · have hq := c11 d (by omega)
      unfold rM at hq ⊢
      rw [f0 d q, f2 d q]
      simp (disch := omega) only [hIo]
      exact hq
end ZON
