/-! a block begins -/
section ZOO
variable {G W : Nat → Nat → Nat} {F : Nat → Nat → Nat → Nat} {B C x y n i D : Nat} {s t : zσ}
/-- open and settle: the last frame is at the first statement of its block b -/
theorem open_core {b : Nat} (hn : 1000 ≤ n) (hC : C < 900000000) (h : CL G F W B C x y i D s t) (hb : b = F i 0 (D - 1)) (hh : t.1 1237 (140 * i + (D - 1)) = t.1 (y + 13) b) : mR G W B C x y i s t (f129 n (1036 + 3 * i) (nI b) s) (f213 n (f219 n 4) (nI i) t) := by
  have hi := CL_i h
  obtain ⟨hx, ha, hb1, hu, c1, c2, c3, c4, c5, c6, c7, c8, c9, c10, c11⟩ := id h
  obtain ⟨⟨hxx, hyy, ⟨r8, -⟩, r9, r10, r11, rt⟩, ⟨hN, hDD, hB, hS⟩, -⟩ := id hx
  obtain ⟨k9, k6, k0⟩ := gck9 hxx
  have n7 := hN.2.2.1.2.2.2.2
  have n2 := hN.2.2.1.2.2.1
  have hK := c9 (D - 1) (by omega)
  have hb0 : b < G 0 1 := by rw [hb]; exact hK.1
  obtain ⟨⟨-, -, -, l1, l12⟩, hfirst, -⟩ := hB b hb0
  have z7 : zin? (nI b) 700 = true := (zinN (by omega)).mpr (by omega)
  have l8 := hK.2.2.2.1
  have z9 : zin? (nI (F i 2 (D - 1))) 9 = true := (zinN (by omega)).mpr (by omega)
  unfold f213
  rcases hfirst with ⟨-, f1, f2⟩ | ⟨q, -, f0, f3, f1, f2⟩
  · have e3 : s.1 (x + 29 + 3) b = -1 := f1
    rw [f2] at hh
    obtain ⟨s2, t2, F2, W2, C2, a1, a2, a3, a4, a5, a6⟩ := close_ok (n := n) 3 (by omega) hC 108 D b 0 n n s t (by omega) h hb0 (by rw [hb]) hh (by omega) (by omega) (by omega)
    refine ⟨s2, t2, F2, W2, C2, ?_, a2, a3, a4, a5, a6⟩
    have a1' : f130_9 n n (1036 + 3 * i) (nI b) 0 0 s = some s2 := a1
    simp (disch := omega) only [f129, f130, zlet, ↓reduceIte, r10, grd k0, z7, nxN, e3, a1', gy0]
  · have e3 : s.1 (x + 29 + 3) b = nI q := f1
    have e3' : ¬ nI q = -1 := fun e => (neqM (show q < 2 ^ 31 by omega)).mp e
    rw [f2] at hh
    obtain ⟨m, rfl⟩ : ∃ m, n = m + 1 := ⟨n - 1, by omega⟩
    refine ⟨sI s (1036 + 3 * i + 1) (F i 2 (D - 1)) (nI q), t, _, W, C, ?_, ?_, CL_done (r := q) (CL_at h) f0 (by rw [f3, hb]) hh hIe, by omega, oC_at, oM_rf, by rw [hIo (by omega)]; exact zAc_w h.2.2.2.2.2.2.1⟩
    · simp (disch := omega) only [f129, zlet, ↓reduceIte, r10, grd k0, z7, nxN, e3, e3', c7, z9]
    · exact m_settle1 (D := D) (r := q) hi c4 c5 c6 hh (by omega)
/-- push -/
theorem m_pushA {b : Nat} (hi : i < 8) (hy : y = 1134 ∨ y = 1170) (h11 : t.2.2 1132 11 = some y) (hD : t.1 1235 i = nI D) (hl : D < 108) (hb : b < 2000) : f212 n (nI i) (nI b) 0 t = some (sI (sI (sI (sI t 1236 (140 * i + D) (nI b)) 1237 (140 * i + D) (t.1 (y + 13) b)) 1238 (140 * i + D) 0) 1235 i (nI (D + 1))) := by
  have c12 := gck12 hy
  have z8 : zin? (nI i) 8 = true := (zinN (by omega)).mpr hi
  have z11 : zin? (nI (140 * i + D)) 1120 = true := (zinN (by omega)).mpr (by omega)
  have z20 : zin? (nI b) 2000 = true := (zinN (by omega)).mpr hb
  simp (disch := omega) only [f212, zlet, ↓reduceIte, hIe, hIk, hIo, gI2, h11, grd c12, z8, z11, z20, nxN, hD, nLmul, naddN, nI_1, gnar0]
theorem m_pushB {b L : Nat} (hi : i < 8) (hy : y = 1134 ∨ y = 1170) (h11 : t.2.2 1132 11 = some y) (hD : t.1 1235 i = nI D) (hl : D < 108) (hb : b < 2000) (hL : t.1 1234 i = nI L) : f212 n (nI i) (nI b) 1 t = some (sI (sI (sI (sI (sI (sI t 1236 (140 * i + D) (nI b)) 1237 (140 * i + D) (t.1 (y + 13) b)) 1238 (140 * i + D) 1) 1235 i (nI (D + 1))) 1234 i (nI (L + 1))) 1132 26 (t.1 1132 26 + 1)) := by
  have c12 := gck12 hy
  have z8 : zin? (nI i) 8 = true := (zinN (by omega)).mpr hi
  have z11 : zin? (nI (140 * i + D)) 1120 = true := (zinN (by omega)).mpr (by omega)
  have z20 : zin? (nI b) 2000 = true := (zinN (by omega)).mpr hb
  have q1 : ¬ (1 : Int32) = 0 := by decide
  simp (disch := omega) only [f212, zlet, ↓reduceIte, hIe, hIk, hIo, gI2, h11, grd c12, z8, z11, z20, nxN, hD, nLmul, naddN, nI_1, gnar1, hL, q1]
theorem CL_108 (h : CL G F W B C x y i D s t) : D ≤ 12 * F i 2 (D - 1) + G 4 (F i 0 (D - 1)) ∧ F i 2 (D - 1) ≤ 8 ∧ G 4 (F i 0 (D - 1)) ≤ 12 ∧ F i 0 (D - 1) < G 0 1 := by
  obtain ⟨hx, -, -, -, -, -, -, -, c5, -, -, -, c9, -, -⟩ := h
  obtain ⟨k1, -, k3, k4, -⟩ := c9 (D - 1) (by omega)
  have := (hx.2.1.2.2.1 _ k1).1.2.2.2.2
  exact ⟨by omega, k4, this, k1⟩
/-- an if's or while's block begins -/
theorem openA_ok {r b : Nat} (hn : 1000 ≤ n) (hC : C < 900000000) (h : CL G F W B C x y i D s t) (hr : r < G 0 0) (hb : G 1 r = F i 0 (D - 1)) (hh : t.1 1237 (140 * i + (D - 1)) = nI r) (hb0 : b < G 0 1) (hb1 : G 2 b = 2 ∨ G 2 b = 3) (hb2 : G 3 b = r) : mR G W B C x y i s t (f129 n (1036 + 3 * i) (nI b) s) (yb0 (f212 n (nI i) (nI b) 0 t) fun u1 => yb0 (f213 n (f219 n 4) (nI i) u1) fun u2 => some u2) := by
  have hi := CL_i h
  obtain ⟨hx, -, -, -, c1, c2, c3, c4, c5, c6, -⟩ := id h
  obtain ⟨⟨hxx, hyy, -, -, -, r11, -⟩, ⟨hN, -, hB, -⟩, -⟩ := id hx
  have n7 := hN.2.2.1.2.2.2.2
  obtain ⟨l1, l8, l12, -⟩ := CL_108 h
  obtain ⟨⟨-, -, -, -, g12⟩, -, -, -, q23, -⟩ := hB b hb0
  obtain ⟨-, g4, -⟩ := q23 hb1
  rw [hb2, hb] at g4
  rw [m_pushA hi hyy r11 c4 (by omega) (by omega), gy0]
  have hp := CL_pushA (v := t.1 (y + 13) b) h hr hb hh hb0 hb1 hb2
  have om : oM i t (sI (sI (sI (sI t 1236 (140 * i + D) (nI b)) 1237 (140 * i + D) (t.1 (y + 13) b)) 1238 (140 * i + D) 0) 1235 i (nI (D + 1))) := ⟨rfl, fun _ _ => rfl, fun a _ _ _ => by simp (disch := omega) only [hIo], fun a j _ _ _ => by simp (disch := omega) only [hIx], fun a j d _ _ _ _ => by simp (disch := omega) only [hIx], fun j k _ _ => by simp (disch := omega) only [hIx], fun a _ _ => by simp (disch := omega) only [hIo], by simp (disch := omega) only [hIo, hIk]⟩
  have f0' : Fp F i D r b (F i 2 (D - 1)) i 0 D = b := by simp [Fp]
  obtain ⟨s2, t2, F2, W2, C2, a1, a2, a3, a4, a5, a6⟩ := open_core (b := b) hn hC hp (by rw [Nat.add_sub_cancel, f0']) (by rw [Nat.add_sub_cancel]; simp (disch := omega) only [hIo, hIe])
  exact ⟨s2, t2, F2, W2, C2, a1, by rw [a2]; rfl, a3, a4, a5, oM_tr om a6.1, a6.2⟩
end ZOO
