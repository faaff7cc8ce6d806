/-! the acts: do, an item is set -/
section ZAH
variable {G W : Nat → Nat → Nat} {F : Nat → Nat → Nat → Nat} {B C x y n i D r : Nat} {s t : zσ}
theorem act_3 (hb : bR B C n) (h : aH G F W B C x y i D r s t) (h69 : t.1 1132 69 = 0) (hk : G 10 r = 3) : pR G B C x y (cP n i r s) (mP n i r t) := by
  have hr := aH_r h
  obtain ⟨hxx, hyy, r9, r11, w3, w4, w6, zr, z8, hi⟩ := aH_k h
  obtain ⟨k9, k6, k0⟩ := gck9 hxx
  have k12 := gck12 hyy
  have e15 : t.1 (y + 15) r = 3 := by rw [w4, hk]; rfl
  obtain ⟨-, hB7, p, hp, e22, e20', c, g23, g24, gc, gX⟩ := tO_3 hk w6
  obtain ⟨u, v, hu0, hv, e18, e33, e22v⟩ := hB7
  have hm := h.1.1.2.1.1.2.1
  have hDD := h.1.1.2.1.2.1
  obtain ⟨m3, b1, -, b3, -, -⟩ := hDD.2.2.2 p hp
  have n7 := h.1.1.2.1.1.2.2.1.2.2.2.2
  have epv : p = v := (neqN (by omega) (by omega)).mp (e22.symm.trans e22v)
  subst epv
  have h0 : aH G F W B C x y i D r (sI s 1007 16 0) t := aH_sc scC_160 scM_rf h
  have gX0 : ∀ j, 0 ≤ j → j < G 12 p → ∃ e, e < 401 ∧ t.1 (y + 22) (4 * r + j) = nI e ∧ t.1 (y + 25) e = nI (c j) ∧ t.1 (y + 26) e = nI (c (j + 1)) ∧ tX G x y (F i 0 (D - 1)) (c j) (c (j + 1)) (sI s 1007 16 0) t := by
    intro j _ hj
    obtain ⟨e, a1, a2, a3, a4, a5⟩ := gX j hj
    rw [h.2.2.1] at a5
    obtain ⟨q1, q2, hh, q3, q4, q5⟩ := a5
    exact ⟨e, a1, a2, a3, a4, q1, q2, hh, q3, q4, fun p' p1 p2 => ⟨(q5 p' p1 p2).1, tC_sc hxx hyy scC_160 scM_rf (q5 p' p1 p2).2⟩⟩
  obtain ⟨c0m, s2, t2, o1, o2, o3⟩ := do_loop (n := n) (m := G 12 p) (c := c) hb.1 m3 gc (G 12 p) 0 (sI s 1007 16 0) t (by omega) (by omega) h0 h69 hIe e20' (by rw [hIo (by omega)]; exact g24) (fun j hj => by omega) gX0
  have o1' : scC s s2 := scC_tr scC_160 o1
  have h2 := aH_sc o1' o2 h
  have r9' : s2.2.2 1007 9 = some (x + 19) := by rw [o1'.1]; exact r9
  have t11 : t2.2.2 1132 11 = some y := by rw [o2.1]; exact r11
  have hn := hb.1
  have eC : f90 n (1036 + 3 * i) (nI r) s = f90_15 n ((n - (c (G 12 p) - c 0) - 1) + (c (G 12 p) - c 0) + 1) (1036 + 3 * i) (nI r) (nI (c 0)) (sI s 1007 16 0) := by
    rw [f90_0 hxx r9 hr g23, show n - (c (G 12 p) - c 0) - 1 + (c (G 12 p) - c 0) + 1 = n by omega]
  have eM : f252 n (nI i) (nI r) t = f252_2 n ((n - G 12 p - 1) + G 12 p + 1) (nI i) (nI r) (nI 0) t := by
    unfold f252
    rw [show n - G 12 p - 1 + G 12 p + 1 = n by omega]
    rfl
  have e20 : s2.1 (x + 19 + 1) r = 149 := by
    have : s2.1 (x + 20) r = nI 149 := zk_lit hk rfl (aH_k h2).2.2.2.2.1
    exact this
  have e242 : f242 n (nI i) (nI r) t = yb0 (f252 n (nI i) (nI r) t) fun u1 => some u1 := by
    unfold f242
    rw [r11, grd k12, if_pos zr, nxN (show r < 2 ^ 31 by omega), if_neg (show ¬ _ = (1 : Int32) by rw [e15]; decide), if_neg (show ¬ _ = (2 : Int32) by rw [e15]; decide), if_pos e15]
  rcases o3 with ⟨d1, d2, d3, d4⟩ | ⟨w, w1, w2, d1, d2, d3⟩
  · have c1 : f90 n (1036 + 3 * i) (nI r) s = some (0, s2) := by rw [eC, d1]
    obtain ⟨-, -, -, -, -, -, -, c4, c5, c6, c7, c8, c9, -⟩ := id h2.1
    have l8 := (c9 (D - 1) (by omega)).2.2.2.1
    have z8i : zin? (nI i) 8 = true := (zinN (by omega)).mpr hi
    have t20 : t2.1 (y + 20) r = nI (G 12 p) := by rw [scM_a o2 (by omega) (by omega) (by omega) (by omega)]; exact e20'
    have s22 : s2.1 (x + 22) r = nI p := by rw [scC_a o1' (by omega) (by omega) (by omega) (by omega)]; exact e22
    have s22' : s2.1 (x + 19 + 3) r = nI p := s22
    have e97 : f97 n (1036 + 3 * i) (nI r) s2 = yb1 (f105 n (1036 + 3 * i) (nI p) s2) fun v10 u9 => some (v10, u9) := by
      unfold f97
      rw [r9', grd k6, if_pos zr, zlet, if_pos z0_64, zlet, grd k6, if_pos zr, nxN (show r < 2 ^ 31 by omega), x0_n, if_neg (show ¬ _ = (1 : Int32) by rw [e20]; decide), if_neg (show ¬ _ = (91 : Int32) by rw [e20]; decide), if_pos e20, grd k6, if_pos zr, s22']
    have eM2 : f252 n (nI i) (nI r) t = (if t2.1 1234 i = (8 : Int32) then yb0 (f246 n (6 : Int32) t2) fun u2 => f252_80 n (nI i) (nI r) u2 else f252_80 n (nI i) (nI r) t2) := by
      rw [eM, d4, f252_2, t11, grd k12, if_pos zr, nxN (show r < 2 ^ 31 by omega), t20, if_neg Int32.lt_irrefl, if_pos d2, if_pos z8i, nxN (show i < 2 ^ 31 by omega)]
    by_cases q8 : F i 2 (D - 1) = 8
    · have nl : ¬ s2.1 (1036 + 3 * i) 10 < 8 := by rw [c7, q8]; decide
      have h3 : aH G F W B C x y i D r s2 (sI t2 1132 69 (nI 6)) := aH_sc scC_rf scM_69 h2
      refine sig_2 hb h3 (by decide) hIe c1 ?_ ?_
      · rw [e97]
        unfold f105
        rw [if_neg nl]
        rfl
      · rw [e242, eM2, if_pos (show t2.1 1234 i = 8 by rw [c8, q8]; rfl), show (6 : Int32) = nI 6 from rfl, m_sig d2, gy0]
        unfold f252_80
        rw [hIe, if_neg (by decide)]
        rfl
    · have zu : zin? (nI u) 1400 = true := (zinN (by omega)).mpr hu0
      have zp : zin? (nI p) 6 = true := (zinN (by omega)).mpr (by omega)
      have t18 : t2.1 (y + 18) r = nI u := by rw [scM_a o2 (by omega) (by omega) (by omega) (by omega)]; exact e18
      have t33 : t2.1 (y + 33) u = nI p := by rw [scM_a o2 (by omega) (by omega) (by omega) (by omega)]; exact e33
      have t10 : t2.1 (y + 10) p = nI (G 15 p) := by rw [scM_a o2 (by omega) (by omega) (by omega) (by omega)]; exact b3
      have n8 : ¬ t2.1 1234 i = 8 := by
        rw [c8]
        exact fun q => q8 ((neq8 (by omega)).mp q)
      obtain ⟨s3, t3, F2, W2, C2, a1, a2, a3, a4, -, a6, -⟩ := call_ok (n := n) hn (by have := hb.2.1; omega) h2.1 h2.2.1 h2.2.2.1 h2.2.2.2.1 h2.2.2.2.2 hk hp s22 (by omega) (fun k _ hk2 => d3 k hk2)
      have e80 : f252_80 n (nI i) (nI r) t2 = some t3 := by
        unfold f252_80
        rw [if_pos d2, t11, grd k12, grd k12, grd k12, if_pos zr, nxN (show r < 2 ^ 31 by omega), t18, if_pos zu, nxN (show u < 2 ^ 31 by omega), t33, if_pos zp, nxN (show p < 2 ^ 31 by omega), t10, a2]
      refine ⟨s3, t3, F2, W2, B, C2, ?_, ?_, a3, by omega, by omega⟩
      · unfold cP
        rw [c1, gy1, if_pos rfl, e97]
        cases hf : f105 n (1036 + 3 * i) (nI p) s2 with
        | none => rw [hf] at a1; cases a1
        | some q =>
          obtain ⟨v, u⟩ := q
          rw [hf, gy1] at a1
          rw [gy1, gy1]
          by_cases qv : v = -2
          · rw [if_pos qv] at a1
            unfold f89_41
            rw [qv, if_neg (by decide), if_neg (by decide), if_pos rfl, a1]
            rfl
          · rw [if_neg qv] at a1
            cases a1
      · unfold mP
        rw [e242, eM2, if_neg n8, e80, gy0, gy0, a6.2.2.2.2.2.2.2, d2, if_pos rfl]
  · refine sig_1 hb h o1' o2 ⟨w1, w2⟩ d1 (by rw [eC, d2]) ?_
    rw [e242, eM, d3]
    rfl
theorem act_2 (hb : bR B C n) (h : aH G F W B C x y i D r s t) (h69 : t.1 1132 69 = 0) (hk : G 10 r = 2) : pR G B C x y (cP n i r s) (mP n i r t) := by
  have hr := aH_r h
  obtain ⟨hxx, hyy, r9, r11, w3, w4, w6, zr, z8, hi⟩ := aH_k h
  obtain ⟨k9, k6, k0⟩ := gck9 hxx
  have k12 := gck12 hyy
  have e15 : t.1 (y + 15) r = 2 := by rw [w4, hk]; rfl
  obtain ⟨hA, hE⟩ := tO_2 hk w6
  obtain ⟨s2, t2, o1, o2, o3⟩ := work_2 hb.1 h h69 hE
  have h2 := aH_sc o1 o2 h
  have r9' : s2.2.2 1007 9 = some (x + 19) := by rw [o1.1]; exact r9
  have t11 : t2.2.2 1132 11 = some y := by rw [o2.1]; exact r11
  have e20 : s2.1 (x + 19 + 1) r = 91 := by
    have : s2.1 (x + 20) r = nI 91 := zk_lit hk rfl (aH_k h2).2.2.2.2.1
    exact this
  have e242 : f242 n (nI i) (nI r) t = yb0 (f251 n (nI i) (nI r) t) fun u1 => some u1 := by
    unfold f242
    rw [r11, grd k12, if_pos zr, nxN (show r < 2 ^ 31 by omega), if_neg (show ¬ _ = (1 : Int32) by rw [e15]; decide), if_pos e15]
  obtain ⟨u, v, hu0, hv, e17, e33, e21⟩ := hA
  have z14 : zin? (nI u) 1400 = true := (zinN (by omega)).mpr hu0
  have n33 := nxN (show u < 2 ^ 31 by omega)
  have nr := nxN (show r < 2 ^ 31 by omega)
  have hm := h.1.1.2.1.1.2.1
  have e21' : s2.1 (x + 19 + 2) r = nI v := by
    have : s2.1 (x + 21) r = s.1 (x + 21) r := by rw [scC_a o1 (by omega) (by omega) (by omega) (by omega)]
    rw [← e21]
    exact this
  have z4 : zin? (nI v) 4 = true := (zinN (by omega)).mpr (by omega)
  have z81 : zin? (nI (4 * r + 1)) 800 = true := (zinN (by omega)).mpr (by omega)
  have t17 : t2.1 (y + 17) r = nI u := by rw [scM_a o2 (by omega) (by omega) (by omega) (by omega)]; exact e17
  have t33 : t2.1 (y + 33) u = nI v := by rw [scM_a o2 (by omega) (by omega) (by omega) (by omega)]; exact e33
  rcases o3 with ⟨t1, c1, p1, p2, p3, p4, p5⟩ | ⟨w, w1, w2, c1, m1, m2⟩
  · have t11' : t1.2.2 1132 11 = some y := by rw [p1.1]; exact r11
    have t22 : t1.1 (y + 22) (4 * r + 1) = t.1 (y + 22) (4 * r + 1) := by rw [scM_a p1 (by omega) (by omega) (by omega) (by omega)]
    have M1 : f251 n (nI i) (nI r) t = yb1 (f248 n (nI v) (s2.1 1033 0).toInt64 t2) fun v4 u3 => f251_82 n (nI i) (s2.1 1033 1) v4 u3 := by
      unfold f251
      rw [r11, grd k12, nLmul, if_pos z8, nxN (show 4 * r < 2 ^ 31 by omega), p4, gy1, p2, if_pos rfl, t11', grd k12, naddL, if_pos z81, nxN (show 4 * r + 1 < 2 ^ 31 by omega), t22, p5, gy1]
      unfold f251_46
      rw [if_pos p3, t11, grd k12, grd k12, if_pos zr, nr, t17, if_pos z14, n33, t33]
    have C1 : f97 n (1036 + 3 * i) (nI r) s2 = yb1 (f99 n (nI v) (s2.1 1033 0) (s2.1 1033 1) s2) fun v7 u6 => some (v7, u6) := by
      unfold f97
      rw [r9', grd k6, if_pos zr, zlet, if_pos z0_64, zlet, grd k6, if_pos zr, nxN (show r < 2 ^ 31 by omega), x0_n, if_neg (show ¬ _ = (1 : Int32) by rw [e20]; decide), if_pos e20, e21', if_pos z1_64, x1_n]
    obtain ⟨⟨d1, d2, d3, d4, d5, d6, d7, d8, d9, d10, d11⟩, dE⟩ := aH_d h2
    obtain ⟨rr1, rr2⟩ := d4 v (by omega)
    have sg : ∀ w, 1 ≤ w ∧ w < 20 → f94 n (nI v) (s2.1 1033 0) s2 = some (nI w, s2) → f248 n (nI v) (s2.1 1033 0).toInt64 t2 = some (0, sI t2 1132 69 (nI w)) → pR G B C x y (cP n i r s) (mP n i r t) := by
      intro w hw q1 q2
      have nz : ¬ nI w = 0 := fun q => by have := (neq0 (show w < 2 ^ 31 by omega)).mp q; omega
      have h3 : aH G F W B C x y i D r s2 (sI t2 1132 69 (nI w)) := aH_sc scC_rf scM_69 h2
      refine sig_2 hb h3 hw hIe c1 ?_ ?_
      · rw [C1]
        unfold f99
        rw [q1, gy1, if_neg nz]
        rfl
      · rw [e242, M1, q2, gy1]
        unfold f251_82
        rw [hIe, if_neg nz]
        rfl
    have m1 : f246 n 1 t2 = some (sI t2 1132 69 (nI 1)) := m_sig (w := 1) p3
    have m2 : f246 n 2 t2 = some (sI t2 1132 69 (nI 2)) := m_sig (w := 2) p3
    rcases rr2 with rr2 | ⟨sl, z, hsl, hz, rr2, rr3, rr4, rr5⟩
    · refine sg 1 (by decide) ?_ ?_
      · simp (disch := omega) only [f94, ↓reduceIte, z4, nxN, rr2]
        rfl
      · simp (disch := omega) only [f248, f248_33, f249, ↓reduceIte, z4, nxN, ← rr1, rr2, m1, gy0, gy1, hIe, show ¬ nI 1 = (0 : Int32) by decide]
    · have p4' : zin? (nI sl) 4 = true := (zinN (by omega)).mpr hsl
      have p5' : zin? (nI sl) 5 = true := (zinN (by omega)).mpr (by omega)
      have pm : ¬ nI sl = -1 := fun q => (neqM (show sl < 2 ^ 31 by omega)).mp q
      by_cases bn : s2.1 1033 0 < 0
      · refine sg 2 (by decide) ?_ ?_
        · simp (disch := omega) only [f94, f94_31, ↓reduceIte, z4, nxN, rr2, pm, bn]
          rfl
        · simp (disch := omega) only [f248, f248_28, f248_33, f249, ↓reduceIte, z4, p5', nxN, ← rr1, rr2, pm, gy0, gy1, p3, i64_lt0, bn, m2, hIe, show ¬ nI 2 = (0 : Int32) by decide]
      · obtain ⟨ix, hix, eix⟩ := nI_of bn
        have l1 := nltN hix (show z < 2 ^ 31 by omega)
        have bn' : ¬ nI ix < 0 := nIM0 hix
        by_cases hl : ix < z
        · have w80 : zin? (nI (20 * sl + ix)) 80 = true := (zinN (by omega)).mpr (by omega)
          have w100 : zin? (nI (20 * sl + ix)) 100 = true := (zinN (by omega)).mpr (by omega)
          have h3 : aH G F W B C x y i D r (sI s2 1013 (20 * sl + ix) (s2.1 1033 1)) (sI t2 1210 (20 * sl + ix) (s2.1 1033 1)) := by
            refine aH_glob h2 ⟨rfl, fun a ha => by simp (disch := omega) only [hIo]⟩ ⟨rfl, fun a q1 q2 q3 => by simp (disch := omega) only [hIo], by simp (disch := omega) only [hIo, hIk]⟩ ⟨?_, ?_, ?_, ?_, ?_, ?_, ?_, ?_, ?_, ?_, ?_⟩ ?_
            · unfold rA at d1 ⊢; simp (disch := omega) only [hIo, hIk]; exact d1
            · unfold rB at d2 ⊢; simp (disch := omega) only [hIo, hIk]; exact d2
            · unfold rV at d3 ⊢; simp (disch := omega) only [hIo, hIk]; exact d3
            · intro q hq
              obtain ⟨a1, a2⟩ := d4 q hq
              simp (disch := omega) only [hIo]
              refine ⟨a1, ?_⟩
              rcases a2 with a2 | ⟨sl', z', b1, b2, b3, b4, b5, b6⟩
              · exact Or.inl a2
              · refine Or.inr ⟨sl', z', b1, b2, b3, b4, b5, fun j hj => ?_⟩
                by_cases e : 20 * sl' + j = 20 * sl + ix
                · rw [e, hIe, hIe]
                · rw [hIk e, hIk e]
                  exact b6 j hj
            · unfold rS at d5 ⊢; simp (disch := omega) only [hIo, hIk]; exact d5
            · unfold rL at d6 ⊢; simp (disch := omega) only [hIo, hIk]; exact d6
            · unfold rI at d7 ⊢; simp (disch := omega) only [hIo, hIk]; exact d7
            · unfold rO at d8 ⊢; simp (disch := omega) only [hIo, hIk]; exact d8
            · unfold rP at d9 ⊢; simp (disch := omega) only [hIo, hIk]; exact d9
            · unfold rH at d10 ⊢; simp (disch := omega) only [hIo, hIk]; exact d10
            · unfold rC at d11 ⊢; simp (disch := omega) only [hIo, hIk]; exact d11
            · unfold rE at dE ⊢; simp (disch := omega) only [hIo, hIk]; exact dE
          refine on_2 (by omega) hb h3 (by rw [hIo (by decide)]; exact p3) c1 ?_ ?_
          · rw [C1, eix]
            simp (disch := omega) only [f99, f94, zlet, ↓reduceIte, z4, p4', nxN, rr2, rr3, pm, bn', l1, hl, gy1, nmulL, naddN, w80]
          · have e48 : f248 n (nI v) (s2.1 1033 0).toInt64 t2 = some (nI (20 * sl + ix), t2) := by
              rw [eix]
              simp (disch := omega) only [f248, f248_33, f249, ↓reduceIte, z4, p5', nxN, ← rr1, rr2, rr4, pm, gy1, p3, i64_lt0, i64_lt, bn', l1, hl, Int32.toInt32_toInt64, nLmul, naddN]
            rw [e242, M1, e48, gy1]
            unfold f251_82
            rw [if_pos p3, if_pos w100, nxN (show 20 * sl + ix < 2 ^ 31 by omega), zlet]
            cases f237 n (nI i) _ <;> rfl
        · refine sg 2 (by decide) ?_ ?_
          · rw [eix]
            simp (disch := omega) only [f94, f94_31, ↓reduceIte, z4, p4', nxN, rr2, rr3, pm, bn', l1, hl]
            rfl
          · rw [eix]
            simp (disch := omega) only [f248, f248_28, f248_33, f249, ↓reduceIte, z4, p5', nxN, ← rr1, rr2, rr4, pm, gy0, gy1, p3, i64_lt0, i64_lt, bn', l1, hl, m2, hIe, show ¬ nI 2 = (0 : Int32) by decide]
  · have nz : ¬ nI w = 0 := fun q => by have := (neq0 (show w < 2 ^ 31 by omega)).mp q; omega
    refine sig_1 hb h o1 o2 ⟨w1, w2⟩ m1 c1 ?_
    rw [e242]
    unfold f251
    rcases m2 with m2 | ⟨t1, v0, p1, p2, p3, p4⟩
    · rw [r11, grd k12, nLmul, if_pos z8, nxN (show 4 * r < 2 ^ 31 by omega), m2, gy1, m1, if_neg nz]
      unfold f251_46 f251_82
      rw [m1, if_neg nz, if_neg nz]
      rfl
    · have t11' : t1.2.2 1132 11 = some y := by rw [p1.1]; exact r11
      have t22 : t1.1 (y + 22) (4 * r + 1) = t.1 (y + 22) (4 * r + 1) := by rw [scM_a p1 (by omega) (by omega) (by omega) (by omega)]
      rw [r11, grd k12, nLmul, if_pos z8, nxN (show 4 * r < 2 ^ 31 by omega), p3, gy1, p2, if_pos rfl, t11', grd k12, naddL, if_pos z81, nxN (show 4 * r + 1 < 2 ^ 31 by omega), t22, p4, gy1]
      unfold f251_46 f251_82
      rw [m1, if_neg nz, if_neg nz]
      rfl
end ZAH
