/-! a var or parameter gets a number -/
section ZAS
variable {G W : Nat → Nat → Nat} {F : Nat → Nat → Nat → Nat} {B C x y n i D : Nat} {s t : zσ}
set_option maxHeartbeats 2000000 in
theorem CL_assign {a m : Int32} (v : Int32) (hn : 200 ≤ n) (h : CL G F W B C x y i D s t) (hv : uV G y (F i 0 (D - 1)) t a m) : ∃ s2 t2, f98 n (1036 + 3 * i) a v s = some s2 ∧ f217 n (nI i) m v t = some t2 ∧ CL G F W B C x y i D s2 t2 ∧ t2.1 1237 = t.1 1237 ∧ s2.1 (1036 + 3 * i + 1) = s.1 (1036 + 3 * i + 1) ∧ oC i s s2 ∧ oM i t t2 := by
  have hi := CL_i h
  obtain ⟨hx, ha, hb1, hu, c1, c2, c3, c4, c5, c6, c7, c8, c9, c10, c11⟩ := id h
  obtain ⟨⟨hxx, hyy, -, -, -, h11, -⟩, ⟨hN, -⟩, -⟩ := id hx
  have c12 := gck12 hyy
  have g0 := (hN.1 0 (by decide)).2.2
  obtain ⟨p1, p2, p3, p4, p5, p6⟩ := gP_of hx
  obtain ⟨u, w, hu1, rfl, e33, hc⟩ := hv
  have z14 : zin? (nI u) 1400 = true := (zinN (by omega)).mpr hu1
  rcases hc with ⟨e34, hw, rfl⟩ | ⟨e34, hw, rfl, h5, h6⟩
  · have z8 : zin? (nI w) 8 = true := (zinN (by omega)).mpr (by omega)
    have l1 : nI w < 8 := (nltN (b := 8) (by omega) (by decide)).mpr (by omega)
    have l2 : ¬ nI w < 0 := nIM0 (by omega)
    have oc : oC i s (sI s 1010 w v) := ⟨rfl, fun a _ _ _ _ _ _ _ _ => by simp (disch := omega) only [hIo]⟩
    have om : oM i t (sI t 1207 w v) := ⟨rfl, fun _ _ => rfl, fun a _ _ _ => by simp (disch := omega) only [hIo], fun a j _ _ _ => by simp (disch := omega) only [hIx], fun a j d _ _ _ _ => by simp (disch := omega) only [hIx], fun j k _ _ => by simp (disch := omega) only [hIx], fun a _ _ => by simp (disch := omega) only [hIo], by simp (disch := omega) only [hIo, hIk]⟩
    have k : kT i s (sI s 1010 w v) t (sI t 1207 w v) := ⟨fun k _ => by simp (disch := omega) only [hIo], fun _ _ _ => by simp (disch := omega) only [hIx]⟩
    refine ⟨sI s 1010 w v, sI t 1207 w v, ?_, ?_, ⟨RUNx_gP hi (Or.inl rfl) hx oc om (fun j _ _ => sG1_rf) ⟨?_, ?_, ?_, ?_, ?_, ?_⟩, kT_a k ha, kT_1 k hb1, kT_u k hi oc hu, c1, c2, ?_, ?_, c5, c6, ?_, ?_, fun d hd => ?_, fun d hd => ?_, fun d hd => ?_⟩, hIo (by decide), hIo (by omega), oc, om⟩
    · simp (disch := omega) only [f98, zlet, ↓reduceIte, l1, l2, z8, nxN]
    · simp (disch := omega) only [f217, zlet, ↓reduceIte, h11, grd c12, z14, nxN, e33, e34, z8]
    · unfold rA at p1 ⊢; simp (disch := omega) only [hIo]; exact p1
    · unfold rB at p2 ⊢; simp (disch := omega) only [hIo]; exact p2
    · intro k hk
      by_cases q : k = w
      · rw [q, hIe, hIe]
      · rw [hIk q, hIk q]
        exact p3 k hk
    · unfold rH at p4 ⊢; simp (disch := omega) only [hIo]; exact p4
    · unfold rC at p5 ⊢; simp (disch := omega) only [hIo]; exact p5
    · unfold rE at p6 ⊢; simp (disch := omega) only [hIo]; exact p6
    · simp (disch := omega) only [hIo]; exact c3
    · simp (disch := omega) only [hIo]; exact c4
    · simp (disch := omega) only [hIo]; exact c7
    · simp (disch := omega) only [hIo]; exact c8
    · have hq := c9 d hd
      unfold rK at hq ⊢; simp (disch := omega) only [hIo]; exact hq
    · have hq := c10 d hd
      unfold rQ at hq ⊢; simp (disch := omega) only [hIo]; exact hq
    · have hq := c11 d hd
      unfold rM at hq ⊢; simp (disch := omega) only [hIo]; exact hq
  · have hK := c9 (D - 1) (by omega)
    have lv : 0 < F i 2 (D - 1) := by
      rcases Nat.eq_zero_or_pos (F i 2 (D - 1)) with q | q
      · have := hK.2.2.2.2.1.mp q; omega
      · exact q
    have l8 := hK.2.2.2.1
    obtain ⟨e, e1, e2, e3, e4, e5⟩ := m_scope (n := n) hi c9 (D - 1) n (by omega) c6 (by omega) lv
    have es : f218 n (nI i) t = some (nI (140 * i + e), t) := by
      unfold f218
      rw [m_top2 hi c4 c5 c6, gy1]
      exact e2
    have hKe := c9 e (by omega)
    have le := lev_le c9
    have ix : 3 * nI (F i 2 (D - 1)) + nI (8 + w) - 8 = nI (3 * F i 2 (D - 1) + w) := by
      rw [nLmul, naddN, show (nI (3 * F i 2 (D - 1) + (8 + w)) - 8 : Int32) = nI (3 * F i 2 (D - 1) + (8 + w) - 8) from nsubL (k := 8) (by omega)]
      congr 1
      omega
    have z27 : zin? (nI (3 * F i 2 (D - 1) + w)) 27 = true := (zinN (by omega)).mpr (by omega)
    have l1 : ¬ nI (8 + w) < 8 := fun q => by have := (nltN (b := 8) (show 8 + w < 2 ^ 31 by omega) (by decide)).mp q; omega
    have z33 : zin? (nI (3 * (140 * i + e) + w)) 3360 = true := (zinN (by omega)).mpr (by omega)
    have q9 : ¬ (9 : Int32) = 0 := by decide
    have oc : oC i s (sI s (1036 + 3 * i + 2) (3 * F i 2 (D - 1) + w) v) := ⟨rfl, fun a _ _ _ _ _ _ _ _ => by simp (disch := omega) only [hIo]⟩
    have om : oM i t (sI t 1239 (3 * (140 * i + e) + w) v) := ⟨rfl, fun _ _ => rfl, fun a _ _ _ => by simp (disch := omega) only [hIo], fun a j _ _ _ => by simp (disch := omega) only [hIx], fun a j d _ _ _ _ => by simp (disch := omega) only [hIx], fun j k _ _ => by simp (disch := omega) only [hIx], fun a _ _ => by simp (disch := omega) only [hIo], by simp (disch := omega) only [hIo, hIk]⟩
    have k : kT i s (sI s (1036 + 3 * i + 2) (3 * F i 2 (D - 1) + w) v) t (sI t 1239 (3 * (140 * i + e) + w) v) := ⟨fun k _ => by simp (disch := omega) only [hIo], fun _ _ _ => by simp (disch := omega) only [hIx]⟩
    refine ⟨sI s (1036 + 3 * i + 2) (3 * F i 2 (D - 1) + w) v, sI t 1239 (3 * (140 * i + e) + w) v, ?_, ?_, ⟨RUNx_gP hi (Or.inl rfl) hx oc om (fun j _ _ => sG1_rf) ⟨?_, ?_, ?_, ?_, ?_, ?_⟩, kT_a k ha, kT_1 k hb1, kT_u k hi oc hu, c1, c2, ?_, ?_, c5, c6, ?_, ?_, fun d hd => ?_, fun d hd => ?_, fun d hd => ?_⟩, hIo (by decide), hIo (by omega), oc, om⟩
    · simp (disch := omega) only [f98, zlet, ↓reduceIte, l1, c7, ix, z27, nxN]
    · simp (disch := omega) only [f217, zlet, ↓reduceIte, h11, grd c12, z14, nxN, e33, e34, q9, es, gy1, nLmul, naddN, z33]
    · unfold rA at p1 ⊢; simp (disch := omega) only [hIo]; exact p1
    · unfold rB at p2 ⊢; simp (disch := omega) only [hIo]; exact p2
    · unfold rV at p3 ⊢; simp (disch := omega) only [hIo]; exact p3
    · unfold rH at p4 ⊢; simp (disch := omega) only [hIo]; exact p4
    · unfold rC at p5 ⊢; simp (disch := omega) only [hIo]; exact p5
    · unfold rE at p6 ⊢; simp (disch := omega) only [hIo]; exact p6
    · simp (disch := omega) only [hIo]; exact c3
    · simp (disch := omega) only [hIo]; exact c4
    · simp (disch := omega) only [hIo]; exact c7
    · simp (disch := omega) only [hIo]; exact c8
    · have hq := c9 d hd
      unfold rK at hq ⊢; simp (disch := omega) only [hIo]; exact hq
    · have hq := c10 d hd
      unfold rQ at hq ⊢; simp (disch := omega) only [hIo]; exact hq
    · have hq := c11 d hd
      unfold rM at hq ⊢
      intro q1 j hj hj2
      by_cases q : d = e
      · subst q
        by_cases q2 : j = w
        · subst q2
          rw [e4, hIe, hIe]
        · rw [hIk (by omega), hIk (by omega)]
          exact hq q1 j hj hj2
      · have hd2 : d < e := by
          rcases Nat.lt_or_ge d e with q3 | q3
          · exact q3
          · exact absurd q1 (e5 d (by omega) (by omega))
        have l3 : F i 2 d + 1 ≤ F i 2 e := by
          obtain ⟨-, -, -, -, -, hc⟩ := hKe
          rcases hc with ⟨q3, -⟩ | ⟨-, -, q3, -⟩ | ⟨-, q3, -⟩
          · omega
          · have := le (e - 1) d (by omega) (by omega)
            omega
          · omega
        rw [hIk (by omega), hIk (by omega)]
        exact hq q1 j hj hj2
end ZAS
