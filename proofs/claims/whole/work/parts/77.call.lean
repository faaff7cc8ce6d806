/-! a proc begins, and gives back -/
section ZCA
variable {G W : Nat → Nat → Nat} {F : Nat → Nat → Nat → Nat} {B C x y n i D : Nat} {s t : zσ}
theorem hCo {a0 sp a dp m b : Nat} (h : b ≠ a) : (sC s a0 sp a dp m).1 b = s.1 b := by
  funext j
  simp [gC, h]
theorem hCx {a0 sp a dp m b j : Nat} (h : ¬ (b = a ∧ dp ≤ j ∧ j < dp + m)) : (sC s a0 sp a dp m).1 b j = s.1 b j := by
  rw [gC, if_neg h]
theorem hCe {a0 sp a dp m j : Nat} (h : j < m) : (sC s a0 sp a dp m).1 a (dp + j) = s.1 a0 (sp + j) := by
  rw [gC, if_pos ⟨rfl, by omega, by omega⟩, show dp + j - dp = j by omega]
theorem hCe0 {a0 sp a dp m : Nat} (h : 0 < m) : (sC s a0 sp a dp m).1 a dp = s.1 a0 sp := by
  have := hCe (s := s) (a0 := a0) (sp := sp) (a := a) (dp := dp) h
  exact this
set_option maxHeartbeats 2000000 in
theorem CL_pushB {r b p : Nat} {v v17 v0 v1 v2 : Int32} (h : CL G F W B C x y i D s t) (hr : r < G 0 0) (hb : G 1 r = F i 0 (D - 1)) (hh : t.1 1237 (140 * i + (D - 1)) = nI r) (hat : s.1 (1036 + 3 * i + 1) (F i 2 (D - 1)) = nI r) (h10 : G 10 r = 3) (hb0 : b < G 0 1) (hb1 : G 2 b = 1) (hb2 : G 3 b = p) (h22 : s.1 (x + 22) r = nI p) (hL : F i 2 (D - 1) < 8) (g0 : 0 < G 12 p → s.1 1033 0 = v0) (g1 : 1 < G 12 p → s.1 1033 1 = v1) (g2 : 2 < G 12 p → s.1 1033 2 = v2) : CL G (Fp F i D r b (F i 2 (D - 1) + 1)) W B C x y i (D + 1) (sI (sI (sC (sI s (1036 + 3 * i) 10 (nI (F i 2 (D - 1) + 1))) 1033 0 (1036 + 3 * i + 2) (3 * (F i 2 (D - 1) + 1)) 3) 1030 8 (s.1 1030 8 + 1)) 1007 17 v17) (sI (sI (sI (sI (sI (sI (sI (sI (sI t 1236 (140 * i + D) (nI b)) 1237 (140 * i + D) v) 1238 (140 * i + D) 1) 1235 i (nI (D + 1))) 1234 i (nI (F i 2 (D - 1) + 1))) 1132 26 (t.1 1132 26 + 1)) 1239 (3 * (140 * i + D)) v0) 1239 (3 * (140 * i + D) + 1) v1) 1239 (3 * (140 * i + D) + 2) v2) := by
  have hi := CL_i h
  obtain ⟨hx, ha, hb3, hu, c1, c2, c3, c4, c5, c6, c7, c8, c9, c10, c11⟩ := id h
  obtain ⟨⟨hxx, -⟩, ⟨-, -, hB, -⟩, -⟩ := id hx
  obtain ⟨⟨-, -, -, l1, l12⟩, -, -, q1, -⟩ := hB b hb0
  obtain ⟨-, g5, g7, -⟩ := q1 hb1
  obtain ⟨m1, -, m12, -⟩ := CL_108 h
  have f0 : ∀ d, d ≠ D → Fp F i D r b (F i 2 (D - 1) + 1) i 0 d = F i 0 d := fun d hd => by simp [Fp, hd]
  have f0' : Fp F i D r b (F i 2 (D - 1) + 1) i 0 D = b := by simp [Fp]
  have f1 : ∀ d, d + 1 ≠ D → Fp F i D r b (F i 2 (D - 1) + 1) i 1 d = F i 1 d := fun d hd => by simp [Fp, hd]
  have f1' : ∀ d, d + 1 = D → Fp F i D r b (F i 2 (D - 1) + 1) i 1 d = r := fun d hd => by simp [Fp, hd]
  have f2 : ∀ d, d ≠ D → Fp F i D r b (F i 2 (D - 1) + 1) i 2 d = F i 2 d := fun d hd => by simp [Fp, hd]
  have f2' : Fp F i D r b (F i 2 (D - 1) + 1) i 2 D = F i 2 (D - 1) + 1 := by simp [Fp]
  have hK1 := c9 (D - 1) (by omega)
  have oc : oC i s (sI (sI (sC (sI s (1036 + 3 * i) 10 (nI (F i 2 (D - 1) + 1))) 1033 0 (1036 + 3 * i + 2) (3 * (F i 2 (D - 1) + 1)) 3) 1030 8 (s.1 1030 8 + 1)) 1007 17 v17) := ⟨rfl, fun a _ _ _ _ _ _ _ _ => by simp (disch := omega) only [hIo, hCo]⟩
  have o : oM i t (sI (sI (sI (sI (sI (sI (sI (sI (sI t 1236 (140 * i + D) (nI b)) 1237 (140 * i + D) v) 1238 (140 * i + D) 1) 1235 i (nI (D + 1))) 1234 i (nI (F i 2 (D - 1) + 1))) 1132 26 (t.1 1132 26 + 1)) 1239 (3 * (140 * i + D)) v0) 1239 (3 * (140 * i + D) + 1) v1) 1239 (3 * (140 * i + D) + 2) v2) := ⟨rfl, fun _ _ => rfl, fun a _ _ _ => by simp (disch := omega) only [hIo], fun a j _ _ _ => by simp (disch := omega) only [hIx], fun a j d _ _ _ _ => by simp (disch := omega) only [hIx], fun j k _ _ => by simp (disch := omega) only [hIx], fun a _ _ => by simp (disch := omega) only [hIo], by simp (disch := omega) only [hIo, hIk]⟩
  have k : kT i s (sI (sI (sC (sI s (1036 + 3 * i) 10 (nI (F i 2 (D - 1) + 1))) 1033 0 (1036 + 3 * i + 2) (3 * (F i 2 (D - 1) + 1)) 3) 1030 8 (s.1 1030 8 + 1)) 1007 17 v17) t (sI (sI (sI (sI (sI (sI (sI (sI (sI t 1236 (140 * i + D) (nI b)) 1237 (140 * i + D) v) 1238 (140 * i + D) 1) 1235 i (nI (D + 1))) 1234 i (nI (F i 2 (D - 1) + 1))) 1132 26 (t.1 1132 26 + 1)) 1239 (3 * (140 * i + D)) v0) 1239 (3 * (140 * i + D) + 1) v1) 1239 (3 * (140 * i + D) + 2) v2) := ⟨fun k _ => by simp (disch := omega) only [hIo, hIk, hCo], fun _ _ _ => by simp (disch := omega) only [hIx]⟩
  obtain ⟨p1, p2, p3, p4, p5, p6⟩ := gP_of hx
  refine ⟨RUNx_gP hi (Or.inl rfl) hx oc o (fun j _ hj => ⟨fun a d => by simp [Fp, hj], fun _ _ => rfl, Nat.le_refl _, Nat.le_refl _⟩) ⟨?_, ?_, ?_, ?_, ?_, ?_⟩, kT_a k ha, kT_1 k hb3, kT_u k hi oc hu, c1, c2, ?_, ?_, by omega, by omega, ?_, ?_, fun d hd => ?_, fun d hd => ?_, fun d hd => ?_⟩
  · obtain ⟨a1, a2, a3, a4, a5, a6, a7, a8⟩ := p1
    unfold rA
    simp (disch := omega) only [hIo, hIk, hIe, hCo]
    exact ⟨a1, a2, a3, a4, a5, by rw [a6], a7, a8⟩
  · unfold rB at p2 ⊢; simp (disch := omega) only [hIo, hIk, hCo]; exact p2
  · unfold rV at p3 ⊢; simp (disch := omega) only [hIo, hIk, hCo]; exact p3
  · unfold rH at p4 ⊢; simp (disch := omega) only [hIo, hIk, hCo]; exact p4
  · unfold rC at p5 ⊢; simp (disch := omega) only [hIo, hIk, hCo]; exact p5
  · unfold rE at p6 ⊢; simp (disch := omega) only [hIo, hIk, hCo]; exact p6
  · simp (disch := omega) only [hIo, hIk, hCo]; exact c3
  · simp (disch := omega) only [hIo, hIe]
  · rw [Nat.add_sub_cancel, f2']; simp (disch := omega) only [hIo, hIe, hCo]
  · rw [Nat.add_sub_cancel, f2']; simp (disch := omega) only [hIo, hIe]
  · by_cases q : d = D
    · subst q
      unfold rK
      rw [f0', f2']
      refine ⟨hb0, by simp (disch := omega) only [hIo, hIe], by omega, by omega, by rw [g5]; omega, Or.inr (Or.inl ⟨c5, by rw [g7]; exact hb1, by rw [f2 _ (by omega)], by simp (disch := omega) only [hIo, hIe], by rw [f1' _ (by omega)]; exact h10⟩)⟩
    · have hq := c9 d (by omega)
      unfold rK at hq ⊢
      rw [f0 d q, f2 d q]
      by_cases q0 : d = 0
      · subst q0
        simp (disch := omega) only [hIo, hIk]
        obtain ⟨a1, a2, a3, a4, a5, a6⟩ := hq
        refine ⟨a1, a2, a3, a4, a5, ?_⟩
        rcases a6 with q | ⟨q, -⟩ | ⟨q, -⟩
        · exact Or.inl ⟨trivial, q.2⟩
        · omega
        · omega
      · rw [f2 (d - 1) (by omega), f1 (d - 1) (by omega)]
        simp (disch := omega) only [hIo, hIk]
        exact hq
  · by_cases q : d + 1 = D
    · unfold rQ
      rw [f1' d q, f0 d (by omega), f2 d (by omega), q, f2', f0', g7]
      have e : D - 1 = d := by omega
      rw [e] at hb hh hat ⊢
      simp (disch := omega) only [hIo, hIk, hCo]
      exact ⟨hr, hb, hh, fun _ => hat, fun _ _ => by rw [hb2]; exact h22⟩
    · have hq := c10 d (by omega)
      unfold rQ at hq ⊢
      rw [f1 d q, f0 d (by omega), f2 d (by omega), f2 (d + 1) (by omega), f0 (d + 1) (by omega)]
      simp (disch := omega) only [hIo, hIk, hCo]
      obtain ⟨a1, a2, a3, a4, a5⟩ := hq
      exact ⟨a1, a2, a3, fun q => a4 (by omega), fun q1 q2 => a5 (by omega) q2⟩
  · by_cases q : d = D
    · subst q
      unfold rM
      rw [f0', f2', g7, hb2]
      intro _ j hj hj2
      have e : j = 0 ∨ j = 1 ∨ j = 2 := by omega
      rcases e with rfl | rfl | rfl
      · simp (disch := omega) only [hIo, hIk, hIe, Nat.add_zero]
        rw [hCe0 (by decide), hIo (by omega)]
        exact g0 hj2
      · simp (disch := omega) only [hIo, hIk, hIe, hCe]
        exact g1 hj2
      · simp (disch := omega) only [hIo, hIk, hIe, hCe]
        exact g2 hj2
    · have hq := c11 d (by omega)
      have le := lev_le c9 (D - 1) d (by omega) (by omega)
      unfold rM at hq ⊢
      rw [f0 d q, f2 d q]
      intro q2 j hj hj2
      simp (disch := omega) only [hIo, hIx]
      rw [hCx (by omega), hIo (by omega)]
      exact hq q2 j hj hj2
/-- enterProc and what follows, with a proc that may begin -/
theorem c_enter {p L : Nat} (hi : i < 8) (hx : x = 1060 ∨ x = 1096) (h8 : s.2.2 1007 8 = some x) (hL : s.1 (1036 + 3 * i) 10 = nI L) (hl : L < 8) (hp : p < 6) (hb : s.1 (x + 17) p = nI (G 15 p)) : f105 n (1036 + 3 * i) (nI p) s = some (-2, sI (sI (sC (sI s (1036 + 3 * i) 10 (nI (L + 1))) 1033 0 (1036 + 3 * i + 2) (3 * (L + 1)) 3) 1030 8 (s.1 1030 8 + 1)) 1007 17 (nI (G 15 p))) := by
  have c9 := (gck9 hx).1
  have q : nI L < 8 := (nltN (b := 8) (by omega) (by decide)).mpr hl
  have zp : zin? (nI p) 6 = true := (zinN (by omega)).mpr hp
  have zc : zcpo 0 (nI (3 * (L + 1))) 3 64 27 = true := by
    have w1 : ¬ nI (3 * (L + 1)) < 0 := nIM0 (by omega)
    have w2 : nx (nI (3 * (L + 1))) = 3 * (L + 1) := nxN (by omega)
    unfold zcpo
    rw [w2, x0_n, x3_n]
    simp [w1]
    omega
  simp (disch := omega) only [f105, zlet, ↓reduceIte, hL, q, hIe, hIo, hIk, hCo, gI2, gC2, nI_1, nLmul, zc, nxN, x0_n, x3_n, h8, grd c9, zp, hb]
theorem m_given {tp : zσ} {D0 : Nat} (hi : i < 8) (hD : tp.1 1235 i = nI D0) (h0 : 0 < D0) (hl : D0 ≤ 108) (hn : 10 ≤ n) : f252_120 n n (nI i) 0 tp = yb0 (f213 n (f219 n 4) (nI i) (sI (sI (sI tp 1239 (3 * (140 * i + (D0 - 1))) (tp.1 1246 0)) 1239 (3 * (140 * i + (D0 - 1)) + 1) (tp.1 1246 1)) 1239 (3 * (140 * i + (D0 - 1)) + 2) (tp.1 1246 2))) fun u1 => some u1 := by
  obtain ⟨m, rfl⟩ : ∃ m, n = m + 4 := ⟨n - 4, by omega⟩
  have hstep : ∀ (j k : Nat) (u : zσ), k < 3 → u.1 1235 i = nI D0 → f252_120 (m + 4) (j + 1) (nI i) (nI k) u = f252_120 (m + 4) j (nI i) (nI (k + 1)) (sI u 1239 (3 * (140 * i + (D0 - 1)) + k) (u.1 1246 k)) := by
    intro j k u hk hu
    have z3 : zin? (nI k) 3 = true := (zinN (by omega)).mpr hk
    have z33 : zin? (nI (3 * (140 * i + (D0 - 1)) + k)) 3360 = true := (zinN (by omega)).mpr (by omega)
    have q : nI k < 3 := (nltN (b := 3) (by omega) (by decide)).mpr hk
    rw [f252_120, if_pos q, m_top2 hi hu h0 hl, gy1, if_pos z3, nLmul, naddN, if_pos z33, nxN (show 3 * (140 * i + (D0 - 1)) + k < 2 ^ 31 by omega), nxN (show k < 2 ^ 31 by omega), nI_1]
    rfl
  rw [show (0 : Int32) = nI 0 from rfl, hstep (m + 3) 0 tp (by decide) hD, hstep (m + 2) 1 _ (by decide) (by rw [hIo (by decide)]; exact hD), hstep (m + 1) 2 _ (by decide) (by rw [hIo (by decide), hIo (by decide)]; exact hD), f252_120, if_neg (show ¬ nI 3 < 3 from Int32.lt_irrefl)]
  rw [hIo (show (1246 : Nat) ≠ 1239 by decide), hIo (show (1246 : Nat) ≠ 1239 by decide), hIo (show (1246 : Nat) ≠ 1239 by decide)]
  rfl
/-- a proc begins, behind its numbers -/
theorem call_ok {r p : Nat} (hn : 1000 ≤ n) (hC : C < 900000000) (h : CL G F W B C x y i D s t) (hr : r < G 0 0) (hb : G 1 r = F i 0 (D - 1)) (hh : t.1 1237 (140 * i + (D - 1)) = nI r) (hat : s.1 (1036 + 3 * i + 1) (F i 2 (D - 1)) = nI r) (h10 : G 10 r = 3) (hp : p < G 6 7) (h22 : s.1 (x + 22) r = nI p) (hL : F i 2 (D - 1) < 8) (hg : ∀ k, k < 3 → k < G 12 p → s.1 1033 k = t.1 1246 k) : mR G W B C x y i s t (yb1 (f105 n (1036 + 3 * i) (nI p) s) fun v u => if v = -2 then f129 n (1036 + 3 * i) (u.1 1007 17) u else none) (yb0 (f212 n (nI i) (nI (G 15 p)) 1 t) fun u => f252_120 n n (nI i) 0 u) := by
  have hi := CL_i h
  obtain ⟨hx, -, -, -, c1, c2, c3, c4, c5, c6, c7, c8, -⟩ := id h
  obtain ⟨⟨hxx, hyy, ⟨r8, -⟩, -, -, r11, -⟩, ⟨hN, hDD, hB, -⟩, -⟩ := id hx
  have n7 := hN.2.2.1.2.2.2.2
  have n6 := hN.2.1.2.2.2.2.2.2
  obtain ⟨-, b1, b2, b3, b4, b5⟩ := hDD.2.2.2 p hp
  obtain ⟨l1, l8, l12, -⟩ := CL_108 h
  rw [c_enter hi hxx r8 c7 hL (by omega) b2, gy1, if_pos rfl, hIe, m_pushB hi hyy r11 c4 (by omega) (by omega) c8, gy0, m_given (D0 := D + 1) hi (by simp (disch := omega) only [hIo, hIe]) (by omega) (by omega) (by omega), Nat.add_sub_cancel]
  have hcl := CL_pushB (v := t.1 (y + 13) (G 15 p)) (v17 := nI (G 15 p)) (v0 := t.1 1246 0) (v1 := t.1 1246 1) (v2 := t.1 1246 2) h hr hb hh hat h10 b1 b4 b5 h22 hL (hg 0 (by decide)) (hg 1 (by decide)) (hg 2 (by decide))
  have e46 : (sI (sI (sI (sI (sI (sI t 1236 (140 * i + D) (nI (G 15 p))) 1237 (140 * i + D) (t.1 (y + 13) (G 15 p))) 1238 (140 * i + D) 1) 1235 i (nI (D + 1))) 1234 i (nI (F i 2 (D - 1) + 1))) 1132 26 (t.1 1132 26 + 1)).1 1246 = t.1 1246 := by simp (disch := omega) only [hIo]
  rw [e46]
  have f0' : Fp F i D r (G 15 p) (F i 2 (D - 1) + 1) i 0 D = G 15 p := by simp [Fp]
  obtain ⟨s2, t2, F2, W2, C2, a1, a2, a3, a4, a5, a6⟩ := open_core (b := G 15 p) hn hC hcl (by rw [Nat.add_sub_cancel, f0']) (by rw [Nat.add_sub_cancel]; simp (disch := omega) only [hIo, hIe])
  refine ⟨s2, t2, F2, W2, C2, a1, by rw [a2]; rfl, a3, a4, oC_tr ?_ a5, oM_tr ?_ a6.1, a6.2⟩
  · exact ⟨rfl, fun a _ _ _ _ _ _ _ _ => by simp (disch := omega) only [hIo, hCo]⟩
  · exact ⟨rfl, fun _ _ => rfl, fun a _ _ _ => by simp (disch := omega) only [hIo], fun a j _ _ _ => by simp (disch := omega) only [hIx], fun a j d _ _ _ _ => by simp (disch := omega) only [hIx], fun j k _ _ => by simp (disch := omega) only [hIx], fun a _ _ => by simp (disch := omega) only [hIo], by simp (disch := omega) only [hIo, hIk]⟩
end ZCA
