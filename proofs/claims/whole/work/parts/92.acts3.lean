/-! the acts: return, log, and those of rows and gates that never wait -/
section ZAE
variable {G W : Nat → Nat → Nat} {F : Nat → Nat → Nat → Nat} {B C x y n i D r : Nat} {s t : zσ}
theorem act_4 (hb : bR B C n) (h : aH G F W B C x y i D r s t) (h69 : t.1 1132 69 = 0) (hk : G 10 r = 4) : pR G B C x y (cP n i r s) (mP n i r t) := by
  have hr := aH_r h
  obtain ⟨hxx, hyy, r9, r11, w3, w4, w6, zr, z8, hi⟩ := aH_k h
  obtain ⟨k9, k6, k0⟩ := gck9 hxx
  have k12 := gck12 hyy
  have e15 : t.1 (y + 15) r = 4 := by rw [w4, hk]; rfl
  obtain ⟨hE, h8⟩ := tO_4 hk w6
  obtain ⟨s2, t2, o1, o2, o3⟩ := work_1 hb.1 h h69 hE
  have h2 := aH_sc o1 o2 h
  have r9' : s2.2.2 1007 9 = some (x + 19) := by rw [o1.1]; exact r9
  have t11 : t2.2.2 1132 11 = some y := by rw [o2.1]; exact r11
  have e20 : s2.1 (x + 19 + 1) r = 150 := by
    have : s2.1 (x + 20) r = nI 150 := zk_lit hk rfl (aH_k h2).2.2.2.2.1
    exact this
  have e242 : f242 n (nI i) (nI r) t = yb0 (f253 n (nI i) (nI r) t) fun u1 => some u1 := by
    unfold f242
    rw [r11, grd k12, if_pos zr, nxN (show r < 2 ^ 31 by omega), if_neg (show ¬ _ = (1 : Int32) by rw [e15]; decide), if_neg (show ¬ _ = (2 : Int32) by rw [e15]; decide), if_neg (show ¬ _ = (3 : Int32) by rw [e15]; decide), if_pos e15]
  rcases o3 with ⟨c1, m1, m2⟩ | ⟨w, w1, w2, c1, m1, m2⟩
  · have hcl := h2.1
    obtain ⟨hx2, -, -, -, c1', -, -, c4, c5, c6, c7, c8, c9, c10, -⟩ := id hcl
    obtain ⟨⟨-, -, ⟨q8, -⟩, -, -⟩, ⟨hN, hDD, hBB, -⟩, -⟩ := id hx2
    have n6 := hN.2.1.2.2.2.2.2.2
    obtain ⟨d, hd⟩ : ∃ d, D = d + 1 := ⟨D - 1, by omega⟩
    subst hd
    rw [Nat.add_sub_cancel] at c7
    have lv : 0 < F i 2 d := by
      rcases Nat.eq_zero_or_pos (F i 2 d) with q | q
      · have q2 := (c9 d (by omega)).2.2.2.2.1.mp q
        have q3 := h.2.2.1
        rw [Nat.add_sub_cancel] at q3
        rw [q3] at h8
        omega
      · exact q
    have l8 := (c9 d (by omega)).2.2.2.1
    obtain ⟨b, q, hb0, hb1, hq, e1, e2, -⟩ := ret_loop (n := n) (v := s2.1 1033 0) hb.1 (by have := hb.2.1; omega) d n t2 hcl lv (by have := hb.1; omega)
    have hsc : scC s2 (sI s2 1007 17 (nI b)) := ⟨rfl, fun a k _ _ _ _ => hIx (by omega)⟩
    obtain ⟨b', q', hb0', hb1', hq', e1', e2', s3, t3, F2, W2, C2, a1, a2, a3, a4, -, a6, -⟩ := ret_loop (n := n) (v := s2.1 1033 0) hb.1 (by have := hb.2.1; omega) d n t2 (CL_sc hsc scM_rf hcl) lv (by have := hb.1; omega)
    rw [hIo (by omega), e1] at e1'
    have n2 := hN.2.2.1.2.2.1
    have eq : q = q' := (neqN (by omega) (by omega)).mp e1'
    subst eq
    rw [hIo (by omega), e2] at e2'
    obtain ⟨g3, -, -, g15⟩ := (hBB b hb0).2.2.2.1 hb1
    obtain ⟨g3', -, -, g15'⟩ := (hBB b' hb0').2.2.2.1 hb1'
    have eb : G 3 b = G 3 b' := (neqN (by omega) (by omega)).mp e2'
    have ebb : b = b' := by rw [← g15, ← g15', eb]
    subst ebb
    obtain ⟨-, p1, p2, -⟩ := hDD.2.2.2 (G 3 b) g3
    have zl : zin? (nI (F i 2 d - 1)) 9 = true := (zinN (by omega)).mpr (by omega)
    have zq : zin? (nI q) 200 = true := (zinN (by omega)).mpr (by omega)
    have zp : zin? (nI (G 3 b)) 6 = true := (zinN (by omega)).mpr (by omega)
    have el : nI (F i 2 d) - 1 = nI (F i 2 d - 1) := nsubL (k := 1) (by omega)
    have e3 : s2.1 (x + 19 + 3) q = nI (G 3 b) := e2
    have e97 : f97 n (1036 + 3 * i) (nI r) s2 = some (-3, sI s2 1007 17 (nI b)) := by
      unfold f97
      rw [r9', grd k6, if_pos zr, zlet, if_pos z0_64, zlet, grd k6, if_pos zr, nxN (show r < 2 ^ 31 by omega), x0_n, if_neg (show ¬ _ = (1 : Int32) by rw [e20]; decide), if_neg (show ¬ _ = (91 : Int32) by rw [e20]; decide), if_neg (show ¬ _ = (149 : Int32) by rw [e20]; decide), if_pos e20, q8, grd k9, grd k6, c7, el, if_pos zl, nxN (show F i 2 d - 1 < 2 ^ 31 by omega), e1, if_pos zq, nxN (show q < 2 ^ 31 by omega), e3, if_pos zp, nxN (show G 3 b < 2 ^ 31 by omega), p2, g15]
      rfl
    have s33 : (sI s2 1007 17 (nI b)).1 1033 0 = s2.1 1033 0 := by rw [hIo (by decide)]
    refine ⟨s3, t3, F2, W2, B, C2, ?_, ?_, a3, by omega, by omega⟩
    · unfold cP
      rw [c1, gy1, if_pos rfl, e97, gy1]
      unfold f89_41
      rw [if_neg (by decide), if_neg (by decide), if_neg (by decide), if_pos rfl, if_pos z0_64, hIe, x0_n, s33]
      unfold f130
      rw [a1]
      rfl
    · unfold mP
      rw [e242]
      unfold f253
      rw [r11, grd k12, nLmul, if_pos z8, nxN (show 4 * r < 2 ^ 31 by omega), m2, gy1, m1, if_pos rfl, a2, gy0, gy0, a6.2.2.2.2.2.2.2, m1, if_pos rfl]
  · have nz : ¬ nI w = 0 := fun q => by have := (neq0 (show w < 2 ^ 31 by omega)).mp q; omega
    refine sig_1 hb h o1 o2 ⟨w1, w2⟩ m1 c1 ?_
    rw [e242]
    unfold f253
    rw [r11, grd k12, nLmul, if_pos z8, nxN (show 4 * r < 2 ^ 31 by omega), m2, gy1, m1, if_neg nz, gy0]
theorem act_28 (hb : bR B C n) (h : aH G F W B C x y i D r s t) (h69 : t.1 1132 69 = 0) (hk : G 10 r = 28) : pR G B C x y (cP n i r s) (mP n i r t) := by
  have hr := aH_r h
  obtain ⟨hxx, hyy, r9, r11, w3, w4, w6, zr, z8, hi⟩ := aH_k h
  obtain ⟨k9, k6, k0⟩ := gck9 hxx
  have k12 := gck12 hyy
  have e15 : t.1 (y + 15) r = 28 := by rw [w4, hk]; rfl
  have hE := tO_28 hk w6
  obtain ⟨s2, t2, o1, o2, o3⟩ := work_1 hb.1 h h69 hE
  have h2 := aH_sc o1 o2 h
  have r9' : s2.2.2 1007 9 = some (x + 19) := by rw [o1.1]; exact r9
  have t11 : t2.2.2 1132 11 = some y := by rw [o2.1]; exact r11
  have e20 : s2.1 (x + 19 + 1) r = 157 := by
    have : s2.1 (x + 20) r = nI 157 := zk_lit hk rfl (aH_k h2).2.2.2.2.1
    exact this
  have e242 : f242 n (nI i) (nI r) t = yb0 (f260 n (nI i) (nI r) t) fun u1 => some u1 := by
    unfold f242
    rw [r11, grd k12, if_pos zr, nxN (show r < 2 ^ 31 by omega), if_neg (show ¬ _ = (1 : Int32) by rw [e15]; decide), if_neg (show ¬ _ = (2 : Int32) by rw [e15]; decide), if_neg (show ¬ _ = (3 : Int32) by rw [e15]; decide), if_neg (show ¬ _ = (4 : Int32) by rw [e15]; decide), if_neg (show ¬ _ = (5 : Int32) by rw [e15]; decide), if_neg (show ¬ _ = (6 : Int32) by rw [e15]; decide), if_neg (show ¬ _ = (7 : Int32) by rw [e15]; decide), if_neg (show ¬ _ = (8 : Int32) by rw [e15]; decide), if_neg (show ¬ _ = (9 : Int32) by rw [e15]; decide), if_neg (show ¬ _ = (10 : Int32) by rw [e15]; decide), if_neg (show ¬ _ = (11 : Int32) by rw [e15]; decide), if_neg (show ¬ _ = (12 : Int32) by rw [e15]; decide), if_neg (show ¬ _ = (13 : Int32) by rw [e15]; decide), if_neg (show ¬ _ = (14 : Int32) by rw [e15]; decide), if_neg (show ¬ _ = (15 : Int32) by rw [e15]; decide), if_neg (show ¬ _ = (22 : Int32) by rw [e15]; decide), if_neg (show ¬ _ = (23 : Int32) by rw [e15]; decide), if_neg (show ¬ _ = (24 : Int32) by rw [e15]; decide), if_neg (show ¬ _ = (25 : Int32) by rw [e15]; decide), if_neg (show ¬ _ = (26 : Int32) by rw [e15]; decide), if_neg (show ¬ _ = (27 : Int32) by rw [e15]; decide), if_pos e15]
    rfl
  have e22 : ¬ t.1 (y + 15) r = 22 := by rw [e15]; decide
  rcases o3 with ⟨c1, m1, m2⟩ | ⟨w, w1, w2, c1, m1, m2⟩
  · obtain ⟨⟨d1, d2, d3, d4, d5, d6, d7, d8, d9, d10, d11⟩, dE⟩ := aH_d h2
    obtain ⟨⟨m, l1, l2, l3, l4⟩, -⟩ := id d2
    have lB := hb.2.2
    by_cases q : m < 200
    · have l200 : nI m < 200 := (nltN (b := 200) (by omega) (by decide)).mpr q
      have z200 : zin? (nI m) 200 = true := (zinN (by omega)).mpr q
      have h3 : aH G F W (B + 1) C x y i D r (sI (sI s2 1031 m (s2.1 1033 0)) 1030 2 (nI (m + 1))) (sI (sI t2 1221 m (s2.1 1033 0)) 1132 23 (nI (m + 1))) := by
        refine aH_glob h2 ⟨rfl, fun a ha => by simp (disch := omega) only [hIo]⟩ ⟨rfl, fun a q1 q2 q3 => by simp (disch := omega) only [hIo], by simp (disch := omega) only [hIo, hIk]⟩ ⟨?_, ?_, ?_, ?_, ?_, ?_, ?_, ?_, ?_, ?_, ?_⟩ ?_
        · unfold rA at d1 ⊢; simp (disch := omega) only [hIo, hIk]; exact d1
        · obtain ⟨-, b2⟩ := d2
          refine ⟨⟨m + 1, by omega, ?_, ?_, fun j h1 h2 => ?_⟩, ?_⟩
          · simp (disch := omega) only [hIo, hIe]
          · simp (disch := omega) only [hIo, hIe]
          · by_cases q2 : j = m
            · subst q2
              simp (disch := omega) only [hIo, hIe]
            · simp (disch := omega) only [hIo, hIk]
              exact l4 j (by omega) h2
          · obtain ⟨⟨mm, b3, b4⟩, m3, b5, b6⟩ := b2
            refine ⟨⟨mm, by omega, ?_⟩, m3, by omega, by simp (disch := omega) only [hIo, hIk]; exact b6⟩
            simp (disch := omega) only [hIo, hIk]
            exact b4
        · unfold rV at d3 ⊢; simp (disch := omega) only [hIo, hIk]; exact d3
        · unfold rW at d4 ⊢; simp (disch := omega) only [hIo, hIk]; exact d4
        · unfold rS at d5 ⊢; simp (disch := omega) only [hIo, hIk]; exact d5
        · unfold rL at d6 ⊢; simp (disch := omega) only [hIo, hIk]; exact d6
        · unfold rI at d7 ⊢; simp (disch := omega) only [hIo, hIk]; exact d7
        · unfold rO at d8 ⊢; simp (disch := omega) only [hIo, hIk]; exact d8
        · unfold rP at d9 ⊢; simp (disch := omega) only [hIo, hIk]; exact d9
        · unfold rH at d10 ⊢; simp (disch := omega) only [hIo, hIk]; exact d10
        · unfold rC at d11 ⊢; simp (disch := omega) only [hIo, hIk]; exact d11
        · unfold rE at dE ⊢; simp (disch := omega) only [hIo, hIk]; exact dE
      refine on_2 (Nat.le_refl _) hb h3 (by rw [hIk (by decide), hIo (by decide)]; exact m1) c1 ?_ ?_
      · unfold f97
        rw [r9', grd k6, if_pos zr, zlet, if_pos z0_64, zlet, grd k6, if_pos zr, nxN (show r < 2 ^ 31 by omega), x0_n, if_neg (show ¬ _ = (1 : Int32) by rw [e20]; decide), if_neg (show ¬ _ = (91 : Int32) by rw [e20]; decide), if_neg (show ¬ _ = (149 : Int32) by rw [e20]; decide), if_neg (show ¬ _ = (150 : Int32) by rw [e20]; decide), if_neg (show ¬ _ = (151 : Int32) by rw [e20]; decide), if_neg (show ¬ _ = (152 : Int32) by rw [e20]; decide), if_neg (show ¬ _ = (154 : Int32) by rw [e20]; decide), if_neg (show ¬ _ = (155 : Int32) by rw [e20]; decide), if_neg (show ¬ _ = (156 : Int32) by rw [e20]; decide), if_pos e20]
        simp (disch := omega) only [f104, f104_20, zlet, ↓reduceIte, l2, l200, z200, nxN, hIo, nI_1, gy1]
      · rw [e242]
        unfold f260
        rw [r11, grd k12, if_pos zr, zlet, nxN (show r < 2 ^ 31 by omega), if_neg e22, if_pos e15, grd k12, nLmul, if_pos z8, nxN (show 4 * r < 2 ^ 31 by omega), m2, gy1, m1, if_pos rfl, l3, if_pos l200, if_pos z200, nxN (show m < 2 ^ 31 by omega), zlet]
        unfold f260_111
        rw [hIo (by decide), l3, nI_1, zlet]
        cases f237 n (nI i) _ <;> rfl
    · have l200 : ¬ nI m < 200 := fun e => q ((nltN (b := 200) (by omega) (by decide)).mp e)
      have h3 : aH G F W (B + 1) C x y i D r (sI s2 1030 2 (nI (m + 1))) (sI t2 1132 23 (nI (m + 1))) := by
        refine aH_glob h2 ⟨rfl, fun a ha => by simp (disch := omega) only [hIo]⟩ ⟨rfl, fun a q1 q2 q3 => by simp (disch := omega) only [hIo], by simp (disch := omega) only [hIo, hIk]⟩ ⟨?_, ?_, ?_, ?_, ?_, ?_, ?_, ?_, ?_, ?_, ?_⟩ ?_
        · unfold rA at d1 ⊢; simp (disch := omega) only [hIo, hIk]; exact d1
        · obtain ⟨-, b2⟩ := d2
          refine ⟨⟨m + 1, by omega, ?_, ?_, fun j h1 h2 => ?_⟩, ?_⟩
          · simp (disch := omega) only [hIe]
          · simp (disch := omega) only [hIe]
          · simp (disch := omega) only [hIo]
            exact l4 j (by omega) h2
          · obtain ⟨⟨mm, b3, b4⟩, m3, b5, b6⟩ := b2
            refine ⟨⟨mm, by omega, ?_⟩, m3, by omega, by simp (disch := omega) only [hIo, hIk]; exact b6⟩
            simp (disch := omega) only [hIo, hIk]
            exact b4
        · unfold rV at d3 ⊢; simp (disch := omega) only [hIo, hIk]; exact d3
        · unfold rW at d4 ⊢; simp (disch := omega) only [hIo, hIk]; exact d4
        · unfold rS at d5 ⊢; simp (disch := omega) only [hIo, hIk]; exact d5
        · unfold rL at d6 ⊢; simp (disch := omega) only [hIo, hIk]; exact d6
        · unfold rI at d7 ⊢; simp (disch := omega) only [hIo, hIk]; exact d7
        · unfold rO at d8 ⊢; simp (disch := omega) only [hIo, hIk]; exact d8
        · unfold rP at d9 ⊢; simp (disch := omega) only [hIo, hIk]; exact d9
        · unfold rH at d10 ⊢; simp (disch := omega) only [hIo, hIk]; exact d10
        · unfold rC at d11 ⊢; simp (disch := omega) only [hIo, hIk]; exact d11
        · unfold rE at dE ⊢; simp (disch := omega) only [hIo, hIk]; exact dE
      refine on_2 (Nat.le_refl _) hb h3 (by rw [hIk (by decide)]; exact m1) c1 ?_ ?_
      · unfold f97
        rw [r9', grd k6, if_pos zr, zlet, if_pos z0_64, zlet, grd k6, if_pos zr, nxN (show r < 2 ^ 31 by omega), x0_n, if_neg (show ¬ _ = (1 : Int32) by rw [e20]; decide), if_neg (show ¬ _ = (91 : Int32) by rw [e20]; decide), if_neg (show ¬ _ = (149 : Int32) by rw [e20]; decide), if_neg (show ¬ _ = (150 : Int32) by rw [e20]; decide), if_neg (show ¬ _ = (151 : Int32) by rw [e20]; decide), if_neg (show ¬ _ = (152 : Int32) by rw [e20]; decide), if_neg (show ¬ _ = (154 : Int32) by rw [e20]; decide), if_neg (show ¬ _ = (155 : Int32) by rw [e20]; decide), if_neg (show ¬ _ = (156 : Int32) by rw [e20]; decide), if_pos e20]
        simp (disch := omega) only [f104, f104_20, zlet, ↓reduceIte, l2, l200, nI_1, gy1]
      · rw [e242]
        unfold f260
        rw [r11, grd k12, if_pos zr, zlet, nxN (show r < 2 ^ 31 by omega), if_neg e22, if_pos e15, grd k12, nLmul, if_pos z8, nxN (show 4 * r < 2 ^ 31 by omega), m2, gy1, m1, if_pos rfl, l3, if_neg l200]
        unfold f260_111
        rw [l3, nI_1, zlet]
        cases f237 n (nI i) _ <;> rfl
  · have nz : ¬ nI w = 0 := fun q => by have := (neq0 (show w < 2 ^ 31 by omega)).mp q; omega
    refine sig_1 hb h o1 o2 ⟨w1, w2⟩ m1 c1 ?_
    rw [e242]
    unfold f260
    rw [r11, grd k12, if_pos zr, zlet, nxN (show r < 2 ^ 31 by omega), if_neg e22, if_pos e15, grd k12, nLmul, if_pos z8, nxN (show 4 * r < 2 ^ 31 by omega), m2, gy1, m1, if_neg nz, gy0]
end ZAE
