/-! the acts of rows, outs, bolts that never wait -/
section ZAF
variable {G W : Nat → Nat → Nat} {F : Nat → Nat → Nat → Nat} {B C x y n i D r : Nat} {s t : zσ}
theorem act_9 (hb : bR B C n) (h : aH G F W B C x y i D r s t) (h69 : t.1 1132 69 = 0) (hk : G 10 r = 9) : pR G B C x y (cP n i r s) (mP n i r t) := by
  have hr := aH_r h
  obtain ⟨hxx, hyy, r9, r11, w3, w4, w6, zr, z8, hi⟩ := aH_k h
  obtain ⟨k9, k6, k0⟩ := gck9 hxx
  have k12 := gck12 hyy
  have e15 : t.1 (y + 15) r = 9 := by rw [w4, hk]; rfl
  obtain ⟨hA, hE⟩ := tO_9 hk w6
  have c1 := work_0 hb.1 h hE
  have h2 : aH G F W B C x y i D r (sI s 1007 16 0) t := aH_sc scC_160 scM_rf h
  generalize hs2 : sI s 1007 16 0 = s2 at c1 h2
  have o1 : scC s s2 := by rw [← hs2]; exact scC_160
  have r9' : s2.2.2 1007 9 = some (x + 19) := by rw [o1.1]; exact r9
  have e20 : s2.1 (x + 19 + 1) r = 156 := by
    have : s2.1 (x + 20) r = nI 156 := zk_lit hk rfl (aH_k h2).2.2.2.2.1
    exact this
  have e242 : f242 n (nI i) (nI r) t = yb0 (f255 n (nI i) (nI r) t) fun u1 => some u1 := by
    unfold f242
    rw [r11, grd k12, if_pos zr, nxN (show r < 2 ^ 31 by omega), if_neg (show ¬ _ = (1 : Int32) by rw [e15]; decide), if_neg (show ¬ _ = (2 : Int32) by rw [e15]; decide), if_neg (show ¬ _ = (3 : Int32) by rw [e15]; decide), if_neg (show ¬ _ = (4 : Int32) by rw [e15]; decide), if_neg (show ¬ _ = (5 : Int32) by rw [e15]; decide), if_neg (show ¬ _ = (6 : Int32) by rw [e15]; decide), if_neg (show ¬ _ = (7 : Int32) by rw [e15]; decide), if_neg (show ¬ _ = (8 : Int32) by rw [e15]; decide), if_pos e15]
    rfl
  obtain ⟨u, v, hu0, hv, e17, e33, e21⟩ := hA
  have z14 : zin? (nI u) 1400 = true := (zinN (by omega)).mpr hu0
  have n33 := nxN (show u < 2 ^ 31 by omega)
  have nr := nxN (show r < 2 ^ 31 by omega)
  have hm := h.1.1.2.1.1.2.1
  have e21' : s2.1 (x + 19 + 2) r = nI v := by
    have : s2.1 (x + 21) r = s.1 (x + 21) r := by rw [scC_a o1 (by omega) (by omega) (by omega) (by omega)]
    rw [← e21]
    exact this
  have z4 : zin? (nI v) 4 = true := (zinN (by omega)).mpr (by omega)
  obtain ⟨⟨d1, d2, d3, d4, d5, d6, d7, d8, d9, d10, d11⟩, dE⟩ := aH_d h2
  have h3 : aH G F W B C x y i D r (sI s2 1011 v (-1)) (sI t 1208 v (-1)) := by
    refine aH_glob h2 ⟨rfl, fun a ha => by simp (disch := omega) only [hIo]⟩ ⟨rfl, fun a q1 q2 q3 => by simp (disch := omega) only [hIo], by simp (disch := omega) only [hIo, hIk]⟩ ⟨?_, ?_, ?_, ?_, ?_, ?_, ?_, ?_, ?_, ?_, ?_⟩ ?_
    · unfold rA at d1 ⊢; simp (disch := omega) only [hIo, hIk]; exact d1
    · unfold rB at d2 ⊢; simp (disch := omega) only [hIo, hIk]; exact d2
    · unfold rV at d3 ⊢; simp (disch := omega) only [hIo, hIk]; exact d3
    · intro q hq
      by_cases e : q = v
      · subst e
        exact ⟨by rw [hIe, hIe], Or.inl hIe⟩
      · simp (disch := omega) only [hIk e, hIo]
        exact d4 q hq
    · unfold rS at d5 ⊢; simp (disch := omega) only [hIo, hIk]; exact d5
    · unfold rL at d6 ⊢; simp (disch := omega) only [hIo, hIk]; exact d6
    · unfold rI at d7 ⊢; simp (disch := omega) only [hIo, hIk]; exact d7
    · unfold rO at d8 ⊢; simp (disch := omega) only [hIo, hIk]; exact d8
    · unfold rP at d9 ⊢; simp (disch := omega) only [hIo, hIk]; exact d9
    · unfold rH at d10 ⊢; simp (disch := omega) only [hIo, hIk]; exact d10
    · unfold rC at d11 ⊢; simp (disch := omega) only [hIo, hIk]; exact d11
    · unfold rE at dE ⊢; simp (disch := omega) only [hIo, hIk]; exact dE
  refine on_2 (by omega) hb h3 (by rw [hIo (by decide)]; exact h69) c1 ?_ ?_
  · unfold f97
    rw [r9', grd k6, if_pos zr, zlet, if_pos z0_64, zlet, grd k6, if_pos zr, nxN (show r < 2 ^ 31 by omega), x0_n, if_neg (show ¬ _ = (1 : Int32) by rw [e20]; decide), if_neg (show ¬ _ = (91 : Int32) by rw [e20]; decide), if_neg (show ¬ _ = (149 : Int32) by rw [e20]; decide), if_neg (show ¬ _ = (150 : Int32) by rw [e20]; decide), if_neg (show ¬ _ = (151 : Int32) by rw [e20]; decide), if_neg (show ¬ _ = (152 : Int32) by rw [e20]; decide), if_neg (show ¬ _ = (154 : Int32) by rw [e20]; decide), if_neg (show ¬ _ = (155 : Int32) by rw [e20]; decide), if_pos e20, e21', if_pos z4, nxN (show v < 2 ^ 31 by omega)]
    rfl
  · rw [e242]
    unfold f255
    rw [r11, grd k12, grd k12, if_pos zr, nr, e17, if_pos z14, n33, e33, zlet, grd k12, if_pos zr, if_neg (show ¬ _ = (7 : Int32) by rw [e15]; decide), grd k12, if_pos zr, if_neg (show ¬ _ = (8 : Int32) by rw [e15]; decide)]
    unfold f255_257 f255_258
    rw [if_pos z4, nxN (show v < 2 ^ 31 by omega), zlet]
    cases f237 n (nI i) _ <;> rfl
theorem act_8 (hb : bR B C n) (h : aH G F W B C x y i D r s t) (h69 : t.1 1132 69 = 0) (hk : G 10 r = 8) : pR G B C x y (cP n i r s) (mP n i r t) := by
  have hr := aH_r h
  obtain ⟨hxx, hyy, r9, r11, w3, w4, w6, zr, z8, hi⟩ := aH_k h
  obtain ⟨k9, k6, k0⟩ := gck9 hxx
  have k12 := gck12 hyy
  have e15 : t.1 (y + 15) r = 8 := by rw [w4, hk]; rfl
  obtain ⟨hA, hB, hE⟩ := tO_8 hk w6
  have c1 := work_0 hb.1 h hE
  have h2 : aH G F W B C x y i D r (sI s 1007 16 0) t := aH_sc scC_160 scM_rf h
  generalize hs2 : sI s 1007 16 0 = s2 at c1 h2
  have o1 : scC s s2 := by rw [← hs2]; exact scC_160
  have r9' : s2.2.2 1007 9 = some (x + 19) := by rw [o1.1]; exact r9
  have e20 : s2.1 (x + 19 + 1) r = 155 := by
    have : s2.1 (x + 20) r = nI 155 := zk_lit hk rfl (aH_k h2).2.2.2.2.1
    exact this
  have e242 : f242 n (nI i) (nI r) t = yb0 (f255 n (nI i) (nI r) t) fun u1 => some u1 := by
    unfold f242
    rw [r11, grd k12, if_pos zr, nxN (show r < 2 ^ 31 by omega), if_neg (show ¬ _ = (1 : Int32) by rw [e15]; decide), if_neg (show ¬ _ = (2 : Int32) by rw [e15]; decide), if_neg (show ¬ _ = (3 : Int32) by rw [e15]; decide), if_neg (show ¬ _ = (4 : Int32) by rw [e15]; decide), if_neg (show ¬ _ = (5 : Int32) by rw [e15]; decide), if_neg (show ¬ _ = (6 : Int32) by rw [e15]; decide), if_neg (show ¬ _ = (7 : Int32) by rw [e15]; decide), if_pos e15]
    rfl
  obtain ⟨u, v, hu0, hv, e17, e33, e21⟩ := hA
  have z14 : zin? (nI u) 1400 = true := (zinN (by omega)).mpr hu0
  have n33 := nxN (show u < 2 ^ 31 by omega)
  have nr := nxN (show r < 2 ^ 31 by omega)
  have hm := h.1.1.2.1.1.2.1
  have e21' : s2.1 (x + 19 + 2) r = nI v := by
    have : s2.1 (x + 21) r = s.1 (x + 21) r := by rw [scC_a o1 (by omega) (by omega) (by omega) (by omega)]
    rw [← e21]
    exact this
  obtain ⟨u', v', hu0', hv', e18, e33', e22⟩ := hB
  have z14' : zin? (nI u') 1400 = true := (zinN (by omega)).mpr hu0'
  have n33' := nxN (show u' < 2 ^ 31 by omega)
  have e22' : s2.1 (x + 19 + 3) r = nI v' := by
    have : s2.1 (x + 22) r = s.1 (x + 22) r := by rw [scC_a o1 (by omega) (by omega) (by omega) (by omega)]
    rw [← e22]
    exact this
  have z4 : zin? (nI v) 4 = true := (zinN (by omega)).mpr (by omega)
  have z4' : zin? (nI v') 4 = true := (zinN (by omega)).mpr (by omega)
  obtain ⟨⟨d1, d2, d3, d4, d5, d6, d7, d8, d9, d10, d11⟩, dE⟩ := aH_d h2
  have eq := d4 v' (by omega)
  have h3 : aH G F W B C x y i D r (sI s2 1011 v (s2.1 1011 v')) (sI t 1208 v (t.1 1208 v')) := by
    refine aH_glob h2 ⟨rfl, fun a ha => by simp (disch := omega) only [hIo]⟩ ⟨rfl, fun a q1 q2 q3 => by simp (disch := omega) only [hIo], by simp (disch := omega) only [hIo, hIk]⟩ ⟨?_, ?_, ?_, ?_, ?_, ?_, ?_, ?_, ?_, ?_, ?_⟩ ?_
    · unfold rA at d1 ⊢; simp (disch := omega) only [hIo, hIk]; exact d1
    · unfold rB at d2 ⊢; simp (disch := omega) only [hIo, hIk]; exact d2
    · unfold rV at d3 ⊢; simp (disch := omega) only [hIo, hIk]; exact d3
    · intro q hq
      by_cases e : q = v
      · subst e
        simp (disch := omega) only [hIo, hIe]
        exact eq
      · simp (disch := omega) only [hIk e, hIo]
        exact d4 q hq
    · unfold rS at d5 ⊢; simp (disch := omega) only [hIo, hIk]; exact d5
    · unfold rL at d6 ⊢; simp (disch := omega) only [hIo, hIk]; exact d6
    · unfold rI at d7 ⊢; simp (disch := omega) only [hIo, hIk]; exact d7
    · unfold rO at d8 ⊢; simp (disch := omega) only [hIo, hIk]; exact d8
    · unfold rP at d9 ⊢; simp (disch := omega) only [hIo, hIk]; exact d9
    · unfold rH at d10 ⊢; simp (disch := omega) only [hIo, hIk]; exact d10
    · unfold rC at d11 ⊢; simp (disch := omega) only [hIo, hIk]; exact d11
    · unfold rE at dE ⊢; simp (disch := omega) only [hIo, hIk]; exact dE
  refine on_2 (by omega) hb h3 (by rw [hIo (by decide)]; exact h69) c1 ?_ ?_
  · unfold f97
    rw [r9', grd k6, if_pos zr, zlet, if_pos z0_64, zlet, grd k6, if_pos zr, nxN (show r < 2 ^ 31 by omega), x0_n, if_neg (show ¬ _ = (1 : Int32) by rw [e20]; decide), if_neg (show ¬ _ = (91 : Int32) by rw [e20]; decide), if_neg (show ¬ _ = (149 : Int32) by rw [e20]; decide), if_neg (show ¬ _ = (150 : Int32) by rw [e20]; decide), if_neg (show ¬ _ = (151 : Int32) by rw [e20]; decide), if_neg (show ¬ _ = (152 : Int32) by rw [e20]; decide), if_neg (show ¬ _ = (154 : Int32) by rw [e20]; decide), if_pos e20, grd k6, if_pos zr, e22', if_pos z4', e21', if_pos z4, nxN (show v < 2 ^ 31 by omega), nxN (show v' < 2 ^ 31 by omega)]
    rfl
  · rw [e242]
    unfold f255
    rw [r11, grd k12, grd k12, if_pos zr, nr, e17, if_pos z14, n33, e33, zlet, grd k12, if_pos zr, if_neg (show ¬ _ = (7 : Int32) by rw [e15]; decide), grd k12, if_pos zr, if_pos e15, grd k12, grd k12, if_pos zr, e18, if_pos z14', n33', e33', if_pos z4', nxN (show v' < 2 ^ 31 by omega)]
    unfold f255_257 f255_258
    rw [if_pos z4, nxN (show v < 2 ^ 31 by omega), zlet]
    cases f237 n (nI i) _ <;> rfl
theorem act_24 (hb : bR B C n) (h : aH G F W B C x y i D r s t) (h69 : t.1 1132 69 = 0) (hk : G 10 r = 24) : pR G B C x y (cP n i r s) (mP n i r t) := by
  have hr := aH_r h
  obtain ⟨hxx, hyy, r9, r11, w3, w4, w6, zr, z8, hi⟩ := aH_k h
  obtain ⟨k9, k6, k0⟩ := gck9 hxx
  have k12 := gck12 hyy
  have e15 : t.1 (y + 15) r = 24 := by rw [w4, hk]; rfl
  obtain ⟨hA, hE⟩ := tO_24 hk w6
  obtain ⟨s2, t2, o1, o2, o3⟩ := work_1 hb.1 h h69 hE
  have h2 := aH_sc o1 o2 h
  have r9' : s2.2.2 1007 9 = some (x + 19) := by rw [o1.1]; exact r9
  have t11 : t2.2.2 1132 11 = some y := by rw [o2.1]; exact r11
  have e20 : s2.1 (x + 19 + 1) r = 166 := by
    have : s2.1 (x + 20) r = nI 166 := zk_lit hk rfl (aH_k h2).2.2.2.2.1
    exact this
  have e242 : f242 n (nI i) (nI r) t = yb0 (f259 n (nI i) (nI r) t) fun u1 => some u1 := by
    unfold f242
    rw [r11, grd k12, if_pos zr, nxN (show r < 2 ^ 31 by omega), if_neg (show ¬ _ = (1 : Int32) by rw [e15]; decide), if_neg (show ¬ _ = (2 : Int32) by rw [e15]; decide), if_neg (show ¬ _ = (3 : Int32) by rw [e15]; decide), if_neg (show ¬ _ = (4 : Int32) by rw [e15]; decide), if_neg (show ¬ _ = (5 : Int32) by rw [e15]; decide), if_neg (show ¬ _ = (6 : Int32) by rw [e15]; decide), if_neg (show ¬ _ = (7 : Int32) by rw [e15]; decide), if_neg (show ¬ _ = (8 : Int32) by rw [e15]; decide), if_neg (show ¬ _ = (9 : Int32) by rw [e15]; decide), if_neg (show ¬ _ = (10 : Int32) by rw [e15]; decide), if_neg (show ¬ _ = (11 : Int32) by rw [e15]; decide), if_neg (show ¬ _ = (12 : Int32) by rw [e15]; decide), if_neg (show ¬ _ = (13 : Int32) by rw [e15]; decide), if_neg (show ¬ _ = (14 : Int32) by rw [e15]; decide), if_neg (show ¬ _ = (15 : Int32) by rw [e15]; decide), if_neg (show ¬ _ = (22 : Int32) by rw [e15]; decide), if_neg (show ¬ _ = (23 : Int32) by rw [e15]; decide), if_pos e15]
    rfl
  obtain ⟨u, v, hu0, hv, e17, e33, e21⟩ := hA
  have z14 : zin? (nI u) 1400 = true := (zinN (by omega)).mpr hu0
  have n33 := nxN (show u < 2 ^ 31 by omega)
  have nr := nxN (show r < 2 ^ 31 by omega)
  have hm := h.1.1.2.1.1.2.1
  have e21' : s2.1 (x + 19 + 2) r = nI v := by
    have : s2.1 (x + 21) r = s.1 (x + 21) r := by rw [scC_a o1 (by omega) (by omega) (by omega) (by omega)]
    rw [← e21]
    exact this
  have z4 : zin? (nI v) 4 = true := (zinN (by omega)).mpr (by omega)
  obtain ⟨⟨d1, d2, d3, d4, d5, d6, d7, d8, d9, d10, d11⟩, dE⟩ := aH_d h2
  obtain ⟨z, hz, q1, q2, q3⟩ := d8 v (by omega)
  have e23 : ¬ t.1 (y + 15) r = 23 := by rw [e15]; decide
  have M1 : f259 n (nI i) (nI r) t = yb1 (f243 n (nI i) (t.1 (y + 22) (4 * r)) t) fun v7 u6 => if (u6.1 1132 69) = (0 : Int32) then (if (u6.1 1220 v) = (40 : Int32) then yb0 (f246 n (8 : Int32) u6) fun u8 => f259_119 n (nI i) (nI v) v7 u8 else f259_119 n (nI i) (nI v) v7 u6) else f259_119 n (nI i) (nI v) v7 u6 := by
    unfold f259
    rw [r11, grd k12, grd k12, if_pos zr, nr, e17, if_pos z14, n33, e33, zlet, grd k12, if_pos zr, if_neg e23, grd k12, nLmul, if_pos z8, nxN (show 4 * r < 2 ^ 31 by omega)]
    congr 1
    funext v7 u6
    rw [if_pos z4, nxN (show v < 2 ^ 31 by omega)]
  rcases o3 with ⟨c1, m1, m2⟩ | ⟨w, w1, w2, c1, m1, m2⟩
  · by_cases q40 : z = 40
    · -- full
      have nl : ¬ nI z < 40 := fun e => by have := (nltN (b := 40) (show z < 2 ^ 31 by omega) (by decide)).mp e; omega
      have ne : nI z = 40 := by rw [q40]; rfl
      have h3 : aH G F W B C x y i D r s2 (sI t2 1132 69 (nI 8)) := aH_sc scC_rf scM_69 h2
      refine sig_2 hb h3 (by decide) hIe c1 ?_ ?_
      · unfold f97
        rw [r9', grd k6, if_pos zr, zlet, if_pos z0_64, zlet, grd k6, if_pos zr, nxN (show r < 2 ^ 31 by omega), x0_n, if_neg (show ¬ _ = (1 : Int32) by rw [e20]; decide), if_neg (show ¬ _ = (91 : Int32) by rw [e20]; decide), if_neg (show ¬ _ = (149 : Int32) by rw [e20]; decide), if_neg (show ¬ _ = (150 : Int32) by rw [e20]; decide), if_neg (show ¬ _ = (151 : Int32) by rw [e20]; decide), if_neg (show ¬ _ = (152 : Int32) by rw [e20]; decide), if_neg (show ¬ _ = (154 : Int32) by rw [e20]; decide), if_neg (show ¬ _ = (155 : Int32) by rw [e20]; decide), if_neg (show ¬ _ = (156 : Int32) by rw [e20]; decide), if_neg (show ¬ _ = (157 : Int32) by rw [e20]; decide), if_neg (show ¬ _ = (158 : Int32) by rw [e20]; decide), if_neg (show ¬ _ = (159 : Int32) by rw [e20]; decide), if_neg (show ¬ _ = (160 : Int32) by rw [e20]; decide), if_neg (show ¬ _ = (161 : Int32) by rw [e20]; decide), if_neg (show ¬ _ = (162 : Int32) by rw [e20]; decide), if_neg (show ¬ _ = (163 : Int32) by rw [e20]; decide), if_neg (show ¬ _ = (164 : Int32) by rw [e20]; decide), if_neg (show ¬ _ = (165 : Int32) by rw [e20]; decide), if_pos e20, e21']
        unfold f120
        rw [if_pos z4, nxN (show v < 2 ^ 31 by omega), q1, if_neg nl]
        rfl
      · rw [e242, M1, m2, gy1, m1, if_pos rfl, q2, if_pos ne, show (8 : Int32) = nI 8 from rfl, m_sig m1, gy0]
        unfold f259_119
        rw [hIe, if_neg (by decide)]
        rfl
    · have nl : nI z < 40 := (nltN (b := 40) (by omega) (by decide)).mpr (by omega)
      have ne : ¬ nI z = 40 := fun e => by have := (neqN (b := 40) (show z < 2 ^ 31 by omega) (by decide)).mp e; omega
      have w160 : zin? (nI (40 * v + z)) 160 = true := (zinN (by omega)).mpr (by omega)
      have h3 : aH G F W B C x y i D r (sI (sI s2 1020 (40 * v + z) (s2.1 1033 0)) 1021 v (nI (z + 1))) (sI (sI t2 1219 (40 * v + z) (s2.1 1033 0)) 1220 v (nI (z + 1))) := by
        refine aH_glob h2 ⟨rfl, fun a ha => by simp (disch := omega) only [hIo]⟩ ⟨rfl, fun a q1 q2 q3 => by simp (disch := omega) only [hIo], by simp (disch := omega) only [hIo, hIk]⟩ ⟨?_, ?_, ?_, ?_, ?_, ?_, ?_, ?_, ?_, ?_, ?_⟩ ?_
        · unfold rA at d1 ⊢; simp (disch := omega) only [hIo, hIk]; exact d1
        · unfold rB at d2 ⊢; simp (disch := omega) only [hIo, hIk]; exact d2
        · unfold rV at d3 ⊢; simp (disch := omega) only [hIo, hIk]; exact d3
        · unfold rW at d4 ⊢; simp (disch := omega) only [hIo, hIk]; exact d4
        · unfold rS at d5 ⊢; simp (disch := omega) only [hIo, hIk]; exact d5
        · unfold rL at d6 ⊢; simp (disch := omega) only [hIo, hIk]; exact d6
        · unfold rI at d7 ⊢; simp (disch := omega) only [hIo, hIk]; exact d7
        · intro k hk
          by_cases e : k = v
          · subst e
            refine ⟨z + 1, by omega, hIe, hIe, fun j hj => ?_⟩
            by_cases e2 : j = z
            · subst e2
              simp (disch := omega) only [hIo, hIe]
            · simp (disch := omega) only [hIo, hIk]
              exact q3 j (by omega)
          · obtain ⟨z', a1, a2, a3, a4⟩ := d8 k hk
            refine ⟨z', a1, ?_, ?_, fun j hj => ?_⟩
            · simp (disch := omega) only [hIk, hIo]; exact a2
            · simp (disch := omega) only [hIk, hIo]; exact a3
            · simp (disch := omega) only [hIo, hIk]
              exact a4 j hj
        · unfold rP at d9 ⊢; simp (disch := omega) only [hIo, hIk]; exact d9
        · unfold rH at d10 ⊢; simp (disch := omega) only [hIo, hIk]; exact d10
        · unfold rC at d11 ⊢; simp (disch := omega) only [hIo, hIk]; exact d11
        · unfold rE at dE ⊢; simp (disch := omega) only [hIo, hIk]; exact dE
      refine on_2 (by omega) hb h3 (by simp (disch := omega) only [hIo]; exact m1) c1 ?_ ?_
      · unfold f97
        rw [r9', grd k6, if_pos zr, zlet, if_pos z0_64, zlet, grd k6, if_pos zr, nxN (show r < 2 ^ 31 by omega), x0_n, if_neg (show ¬ _ = (1 : Int32) by rw [e20]; decide), if_neg (show ¬ _ = (91 : Int32) by rw [e20]; decide), if_neg (show ¬ _ = (149 : Int32) by rw [e20]; decide), if_neg (show ¬ _ = (150 : Int32) by rw [e20]; decide), if_neg (show ¬ _ = (151 : Int32) by rw [e20]; decide), if_neg (show ¬ _ = (152 : Int32) by rw [e20]; decide), if_neg (show ¬ _ = (154 : Int32) by rw [e20]; decide), if_neg (show ¬ _ = (155 : Int32) by rw [e20]; decide), if_neg (show ¬ _ = (156 : Int32) by rw [e20]; decide), if_neg (show ¬ _ = (157 : Int32) by rw [e20]; decide), if_neg (show ¬ _ = (158 : Int32) by rw [e20]; decide), if_neg (show ¬ _ = (159 : Int32) by rw [e20]; decide), if_neg (show ¬ _ = (160 : Int32) by rw [e20]; decide), if_neg (show ¬ _ = (161 : Int32) by rw [e20]; decide), if_neg (show ¬ _ = (162 : Int32) by rw [e20]; decide), if_neg (show ¬ _ = (163 : Int32) by rw [e20]; decide), if_neg (show ¬ _ = (164 : Int32) by rw [e20]; decide), if_neg (show ¬ _ = (165 : Int32) by rw [e20]; decide), if_pos e20, e21']
        simp (disch := omega) only [f120, zlet, ↓reduceIte, z4, nxN, q1, nl, nmulL, naddN, w160, hIo, nI_1, gy1]
      · rw [e242, M1, m2, gy1, m1, if_pos rfl, q2, if_neg ne]
        unfold f259_119 f259_155
        rw [if_pos m1, if_pos z4, nLmul, nxN (show v < 2 ^ 31 by omega), q2, naddN, if_pos w160, nxN (show 40 * v + z < 2 ^ 31 by omega), zlet, if_pos z4, if_pos z4, hIo (by decide), q2, nI_1, zlet]
        cases f237 n (nI i) _ <;> rfl
  · have nz : ¬ nI w = 0 := fun q => by have := (neq0 (show w < 2 ^ 31 by omega)).mp q; omega
    refine sig_1 hb h o1 o2 ⟨w1, w2⟩ m1 c1 ?_
    rw [e242, M1, m2, gy1, m1, if_neg nz]
    unfold f259_119
    rw [m1, if_neg nz, gy0]
theorem act_13 (hb : bR B C n) (h : aH G F W B C x y i D r s t) (h69 : t.1 1132 69 = 0) (hk : G 10 r = 13) : pR G B C x y (cP n i r s) (mP n i r t) := by
  have hr := aH_r h
  obtain ⟨hxx, hyy, r9, r11, w3, w4, w6, zr, z8, hi⟩ := aH_k h
  obtain ⟨k9, k6, k0⟩ := gck9 hxx
  have k12 := gck12 hyy
  have e15 : t.1 (y + 15) r = 13 := by rw [w4, hk]; rfl
  obtain ⟨hA, hE⟩ := tO_13 hk w6
  have c1 := work_0 hb.1 h hE
  have h2 : aH G F W B C x y i D r (sI s 1007 16 0) t := aH_sc scC_160 scM_rf h
  generalize hs2 : sI s 1007 16 0 = s2 at c1 h2
  have o1 : scC s s2 := by rw [← hs2]; exact scC_160
  have r9' : s2.2.2 1007 9 = some (x + 19) := by rw [o1.1]; exact r9
  have e20 : s2.1 (x + 19 + 1) r = 162 := by
    have : s2.1 (x + 20) r = nI 162 := zk_lit hk rfl (aH_k h2).2.2.2.2.1
    exact this
  have e242 : f242 n (nI i) (nI r) t = yb0 (f258 n (nI i) (nI r) t) fun u1 => some u1 := by
    unfold f242
    rw [r11, grd k12, if_pos zr, nxN (show r < 2 ^ 31 by omega), if_neg (show ¬ _ = (1 : Int32) by rw [e15]; decide), if_neg (show ¬ _ = (2 : Int32) by rw [e15]; decide), if_neg (show ¬ _ = (3 : Int32) by rw [e15]; decide), if_neg (show ¬ _ = (4 : Int32) by rw [e15]; decide), if_neg (show ¬ _ = (5 : Int32) by rw [e15]; decide), if_neg (show ¬ _ = (6 : Int32) by rw [e15]; decide), if_neg (show ¬ _ = (7 : Int32) by rw [e15]; decide), if_neg (show ¬ _ = (8 : Int32) by rw [e15]; decide), if_neg (show ¬ _ = (9 : Int32) by rw [e15]; decide), if_neg (show ¬ _ = (10 : Int32) by rw [e15]; decide), if_neg (show ¬ _ = (11 : Int32) by rw [e15]; decide), if_neg (show ¬ _ = (12 : Int32) by rw [e15]; decide), if_pos e15]
    rfl
  obtain ⟨u, v, hu0, hv, e17, e33, e21⟩ := hA
  have z14 : zin? (nI u) 1400 = true := (zinN (by omega)).mpr hu0
  have n33 := nxN (show u < 2 ^ 31 by omega)
  have nr := nxN (show r < 2 ^ 31 by omega)
  have hm := h.1.1.2.1.1.2.1
  have e21' : s2.1 (x + 19 + 2) r = nI v := by
    have : s2.1 (x + 21) r = s.1 (x + 21) r := by rw [scC_a o1 (by omega) (by omega) (by omega) (by omega)]
    rw [← e21]
    exact this
  have z4 : zin? (nI v) 4 = true := (zinN (by omega)).mpr (by omega)
  obtain ⟨⟨d1, d2, d3, d4, d5, d6, d7, d8, d9, d10, d11⟩, dE⟩ := aH_d h2
  have b1 := (d6.1 v (by omega)).1
  have ti : s2.1 (1036 + 3 * i) 0 = nI i := h2.1.2.1.1
  have M1 : f258 n (nI i) (nI r) t = (if t.1 1212 v = nI i then (f258_251 n (nI i) (sI t 1212 v (-1))) else yb0 (f246 n (8 : Int32) t) fun u9 => some u9) := by
    unfold f258
    rw [r11, grd k12, grd k12, if_pos zr, nr, e17, if_pos z14, n33, e33, zlet, grd k12, if_pos zr, zlet, if_neg (show ¬ _ = (12 : Int32) by rw [e15]; decide), if_pos e15, if_pos z4, if_pos z4, nxN (show v < 2 ^ 31 by omega), zlet]
  by_cases q : t.1 1212 v = nI i
  · have h3 : aH G F W B C x y i D r (sI s2 1016 v (-1)) (sI t 1212 v (-1)) := by
      refine aH_glob h2 ⟨rfl, fun a ha => by simp (disch := omega) only [hIo]⟩ ⟨rfl, fun a q1 q2 q3 => by simp (disch := omega) only [hIo], by simp (disch := omega) only [hIo, hIk]⟩ ⟨?_, ?_, ?_, ?_, ?_, ?_, ?_, ?_, ?_, ?_, ?_⟩ ?_
      · unfold rA at d1 ⊢; simp (disch := omega) only [hIo, hIk]; exact d1
      · unfold rB at d2 ⊢; simp (disch := omega) only [hIo, hIk]; exact d2
      · unfold rV at d3 ⊢; simp (disch := omega) only [hIo, hIk]; exact d3
      · unfold rW at d4 ⊢; simp (disch := omega) only [hIo, hIk]; exact d4
      · unfold rS at d5 ⊢; simp (disch := omega) only [hIo, hIk]; exact d5
      · refine ⟨fun k hk => ?_, fun j hj => ?_⟩
        · by_cases e : k = v
          · subst e
            exact ⟨by rw [hIe, hIe], Or.inl hIe⟩
          · rw [hIk e, hIk e]
            exact d6.1 k hk
        · simp (disch := omega) only [hIo]
          exact d6.2 j hj
      · unfold rI at d7 ⊢; simp (disch := omega) only [hIo, hIk]; exact d7
      · unfold rO at d8 ⊢; simp (disch := omega) only [hIo, hIk]; exact d8
      · unfold rP at d9 ⊢; simp (disch := omega) only [hIo, hIk]; exact d9
      · unfold rH at d10 ⊢; simp (disch := omega) only [hIo, hIk]; exact d10
      · unfold rC at d11 ⊢; simp (disch := omega) only [hIo, hIk]; exact d11
      · unfold rE at dE ⊢; simp (disch := omega) only [hIo, hIk]; exact dE
    refine on_2 (by omega) hb h3 (by rw [hIo (by decide)]; exact h69) c1 ?_ ?_
    · unfold f97
      rw [r9', grd k6, if_pos zr, zlet, if_pos z0_64, zlet, grd k6, if_pos zr, nxN (show r < 2 ^ 31 by omega), x0_n, if_neg (show ¬ _ = (1 : Int32) by rw [e20]; decide), if_neg (show ¬ _ = (91 : Int32) by rw [e20]; decide), if_neg (show ¬ _ = (149 : Int32) by rw [e20]; decide), if_neg (show ¬ _ = (150 : Int32) by rw [e20]; decide), if_neg (show ¬ _ = (151 : Int32) by rw [e20]; decide), if_neg (show ¬ _ = (152 : Int32) by rw [e20]; decide), if_neg (show ¬ _ = (154 : Int32) by rw [e20]; decide), if_neg (show ¬ _ = (155 : Int32) by rw [e20]; decide), if_neg (show ¬ _ = (156 : Int32) by rw [e20]; decide), if_neg (show ¬ _ = (157 : Int32) by rw [e20]; decide), if_neg (show ¬ _ = (158 : Int32) by rw [e20]; decide), if_neg (show ¬ _ = (159 : Int32) by rw [e20]; decide), if_neg (show ¬ _ = (160 : Int32) by rw [e20]; decide), if_neg (show ¬ _ = (161 : Int32) by rw [e20]; decide), if_pos e20, e21', ti]
      unfold f118
      rw [if_pos z4, nxN (show v < 2 ^ 31 by omega), b1, if_pos q, if_pos z4, zlet]
      rfl
    · rw [e242, M1, if_pos q]
      unfold f258_251
      cases f237 n (nI i) _ <;> rfl
  · have h3 : aH G F W B C x y i D r s2 (sI t 1132 69 (nI 8)) := aH_sc scC_rf scM_69 h2
    refine sig_2 hb h3 (by decide) hIe c1 ?_ ?_
    · unfold f97
      rw [r9', grd k6, if_pos zr, zlet, if_pos z0_64, zlet, grd k6, if_pos zr, nxN (show r < 2 ^ 31 by omega), x0_n, if_neg (show ¬ _ = (1 : Int32) by rw [e20]; decide), if_neg (show ¬ _ = (91 : Int32) by rw [e20]; decide), if_neg (show ¬ _ = (149 : Int32) by rw [e20]; decide), if_neg (show ¬ _ = (150 : Int32) by rw [e20]; decide), if_neg (show ¬ _ = (151 : Int32) by rw [e20]; decide), if_neg (show ¬ _ = (152 : Int32) by rw [e20]; decide), if_neg (show ¬ _ = (154 : Int32) by rw [e20]; decide), if_neg (show ¬ _ = (155 : Int32) by rw [e20]; decide), if_neg (show ¬ _ = (156 : Int32) by rw [e20]; decide), if_neg (show ¬ _ = (157 : Int32) by rw [e20]; decide), if_neg (show ¬ _ = (158 : Int32) by rw [e20]; decide), if_neg (show ¬ _ = (159 : Int32) by rw [e20]; decide), if_neg (show ¬ _ = (160 : Int32) by rw [e20]; decide), if_neg (show ¬ _ = (161 : Int32) by rw [e20]; decide), if_pos e20, e21', ti]
      unfold f118
      rw [if_pos z4, nxN (show v < 2 ^ 31 by omega), b1, if_neg q]
      rfl
    · rw [e242, M1, if_neg q, show (8 : Int32) = nI 8 from rfl, m_sig h69]
      rfl
theorem act_15 (hb : bR B C n) (h : aH G F W B C x y i D r s t) (h69 : t.1 1132 69 = 0) (hk : G 10 r = 15) : pR G B C x y (cP n i r s) (mP n i r t) := by
  have hr := aH_r h
  obtain ⟨hxx, hyy, r9, r11, w3, w4, w6, zr, z8, hi⟩ := aH_k h
  obtain ⟨k9, k6, k0⟩ := gck9 hxx
  have k12 := gck12 hyy
  have e15 : t.1 (y + 15) r = 15 := by rw [w4, hk]; rfl
  obtain ⟨hA, hE⟩ := tO_15 hk w6
  have c1 := work_0 hb.1 h hE
  have h2 : aH G F W B C x y i D r (sI s 1007 16 0) t := aH_sc scC_160 scM_rf h
  generalize hs2 : sI s 1007 16 0 = s2 at c1 h2
  have o1 : scC s s2 := by rw [← hs2]; exact scC_160
  have r9' : s2.2.2 1007 9 = some (x + 19) := by rw [o1.1]; exact r9
  have e20 : s2.1 (x + 19 + 1) r = 164 := by
    have : s2.1 (x + 20) r = nI 164 := zk_lit hk rfl (aH_k h2).2.2.2.2.1
    exact this
  have e242 : f242 n (nI i) (nI r) t = yb0 (f258 n (nI i) (nI r) t) fun u1 => some u1 := by
    unfold f242
    rw [r11, grd k12, if_pos zr, nxN (show r < 2 ^ 31 by omega), if_neg (show ¬ _ = (1 : Int32) by rw [e15]; decide), if_neg (show ¬ _ = (2 : Int32) by rw [e15]; decide), if_neg (show ¬ _ = (3 : Int32) by rw [e15]; decide), if_neg (show ¬ _ = (4 : Int32) by rw [e15]; decide), if_neg (show ¬ _ = (5 : Int32) by rw [e15]; decide), if_neg (show ¬ _ = (6 : Int32) by rw [e15]; decide), if_neg (show ¬ _ = (7 : Int32) by rw [e15]; decide), if_neg (show ¬ _ = (8 : Int32) by rw [e15]; decide), if_neg (show ¬ _ = (9 : Int32) by rw [e15]; decide), if_neg (show ¬ _ = (10 : Int32) by rw [e15]; decide), if_neg (show ¬ _ = (11 : Int32) by rw [e15]; decide), if_neg (show ¬ _ = (12 : Int32) by rw [e15]; decide), if_neg (show ¬ _ = (13 : Int32) by rw [e15]; decide), if_neg (show ¬ _ = (14 : Int32) by rw [e15]; decide), if_pos e15]
    rfl
  obtain ⟨u, v, hu0, hv, e17, e33, e21⟩ := hA
  have z14 : zin? (nI u) 1400 = true := (zinN (by omega)).mpr hu0
  have n33 := nxN (show u < 2 ^ 31 by omega)
  have nr := nxN (show r < 2 ^ 31 by omega)
  have hm := h.1.1.2.1.1.2.1
  have e21' : s2.1 (x + 19 + 2) r = nI v := by
    have : s2.1 (x + 21) r = s.1 (x + 21) r := by rw [scC_a o1 (by omega) (by omega) (by omega) (by omega)]
    rw [← e21]
    exact this
  have z32 : zin? (nI (8 * v + i)) 32 = true := (zinN (by omega)).mpr (by omega)
  obtain ⟨⟨d1, d2, d3, d4, d5, d6, d7, d8, d9, d10, d11⟩, dE⟩ := aH_d h2
  have b1 := d6.2 (8 * v + i) (by omega)
  have ti : s2.1 (1036 + 3 * i) 0 = nI i := h2.1.2.1.1
  have M1 : f258 n (nI i) (nI r) t = (if t.1 1213 (8 * v + i) = 0 then yb0 (f246 n (8 : Int32) t) fun u7 => some u7 else f258_251 n (nI i) (sI t 1213 (8 * v + i) (t.1 1213 (8 * v + i) - 1))) := by
    unfold f258
    rw [r11, grd k12, grd k12, if_pos zr, nr, e17, if_pos z14, n33, e33, zlet, grd k12, if_pos zr, zlet, if_neg (show ¬ _ = (12 : Int32) by rw [e15]; decide), if_neg (show ¬ _ = (13 : Int32) by rw [e15]; decide), if_neg (show ¬ _ = (14 : Int32) by rw [e15]; decide), nLmul, naddN, if_pos z32, nxN (show 8 * v + i < 2 ^ 31 by omega), if_pos z32, if_pos z32, zlet]
  by_cases q : t.1 1213 (8 * v + i) = 0
  · have h3 : aH G F W B C x y i D r s2 (sI t 1132 69 (nI 8)) := aH_sc scC_rf scM_69 h2
    refine sig_2 hb h3 (by decide) hIe c1 ?_ ?_
    · unfold f97
      rw [r9', grd k6, if_pos zr, zlet, if_pos z0_64, zlet, grd k6, if_pos zr, nxN (show r < 2 ^ 31 by omega), x0_n, if_neg (show ¬ _ = (1 : Int32) by rw [e20]; decide), if_neg (show ¬ _ = (91 : Int32) by rw [e20]; decide), if_neg (show ¬ _ = (149 : Int32) by rw [e20]; decide), if_neg (show ¬ _ = (150 : Int32) by rw [e20]; decide), if_neg (show ¬ _ = (151 : Int32) by rw [e20]; decide), if_neg (show ¬ _ = (152 : Int32) by rw [e20]; decide), if_neg (show ¬ _ = (154 : Int32) by rw [e20]; decide), if_neg (show ¬ _ = (155 : Int32) by rw [e20]; decide), if_neg (show ¬ _ = (156 : Int32) by rw [e20]; decide), if_neg (show ¬ _ = (157 : Int32) by rw [e20]; decide), if_neg (show ¬ _ = (158 : Int32) by rw [e20]; decide), if_neg (show ¬ _ = (159 : Int32) by rw [e20]; decide), if_neg (show ¬ _ = (160 : Int32) by rw [e20]; decide), if_neg (show ¬ _ = (161 : Int32) by rw [e20]; decide), if_neg (show ¬ _ = (162 : Int32) by rw [e20]; decide), if_neg (show ¬ _ = (163 : Int32) by rw [e20]; decide), if_pos e20, e21', ti]
      unfold f119
      rw [nmulL, naddN, if_pos z32, nxN (show 8 * v + i < 2 ^ 31 by omega), b1, if_pos q]
      rfl
    · rw [e242, M1, if_pos q, show (8 : Int32) = nI 8 from rfl, m_sig h69]
      rfl
  · have h3 : aH G F W B C x y i D r (sI s2 1017 (8 * v + i) (s2.1 1017 (8 * v + i) - 1)) (sI t 1213 (8 * v + i) (t.1 1213 (8 * v + i) - 1)) := by
      refine aH_glob h2 ⟨rfl, fun a ha => by simp (disch := omega) only [hIo]⟩ ⟨rfl, fun a q1 q2 q3 => by simp (disch := omega) only [hIo], by simp (disch := omega) only [hIo, hIk]⟩ ⟨?_, ?_, ?_, ?_, ?_, ?_, ?_, ?_, ?_, ?_, ?_⟩ ?_
      · unfold rA at d1 ⊢; simp (disch := omega) only [hIo, hIk]; exact d1
      · unfold rB at d2 ⊢; simp (disch := omega) only [hIo, hIk]; exact d2
      · unfold rV at d3 ⊢; simp (disch := omega) only [hIo, hIk]; exact d3
      · unfold rW at d4 ⊢; simp (disch := omega) only [hIo, hIk]; exact d4
      · unfold rS at d5 ⊢; simp (disch := omega) only [hIo, hIk]; exact d5
      · refine ⟨fun k hk => ?_, fun j hj => ?_⟩
        · simp (disch := omega) only [hIo]
          exact d6.1 k hk
        · by_cases e : j = 8 * v + i
          · subst e
            rw [hIe, hIe, b1]
          · rw [hIk e, hIk e]
            exact d6.2 j hj
      · unfold rI at d7 ⊢; simp (disch := omega) only [hIo, hIk]; exact d7
      · unfold rO at d8 ⊢; simp (disch := omega) only [hIo, hIk]; exact d8
      · unfold rP at d9 ⊢; simp (disch := omega) only [hIo, hIk]; exact d9
      · unfold rH at d10 ⊢; simp (disch := omega) only [hIo, hIk]; exact d10
      · unfold rC at d11 ⊢; simp (disch := omega) only [hIo, hIk]; exact d11
      · unfold rE at dE ⊢; simp (disch := omega) only [hIo, hIk]; exact dE
    refine on_2 (by omega) hb h3 (by rw [hIo (by decide)]; exact h69) c1 ?_ ?_
    · unfold f97
      rw [r9', grd k6, if_pos zr, zlet, if_pos z0_64, zlet, grd k6, if_pos zr, nxN (show r < 2 ^ 31 by omega), x0_n, if_neg (show ¬ _ = (1 : Int32) by rw [e20]; decide), if_neg (show ¬ _ = (91 : Int32) by rw [e20]; decide), if_neg (show ¬ _ = (149 : Int32) by rw [e20]; decide), if_neg (show ¬ _ = (150 : Int32) by rw [e20]; decide), if_neg (show ¬ _ = (151 : Int32) by rw [e20]; decide), if_neg (show ¬ _ = (152 : Int32) by rw [e20]; decide), if_neg (show ¬ _ = (154 : Int32) by rw [e20]; decide), if_neg (show ¬ _ = (155 : Int32) by rw [e20]; decide), if_neg (show ¬ _ = (156 : Int32) by rw [e20]; decide), if_neg (show ¬ _ = (157 : Int32) by rw [e20]; decide), if_neg (show ¬ _ = (158 : Int32) by rw [e20]; decide), if_neg (show ¬ _ = (159 : Int32) by rw [e20]; decide), if_neg (show ¬ _ = (160 : Int32) by rw [e20]; decide), if_neg (show ¬ _ = (161 : Int32) by rw [e20]; decide), if_neg (show ¬ _ = (162 : Int32) by rw [e20]; decide), if_neg (show ¬ _ = (163 : Int32) by rw [e20]; decide), if_pos e20, e21', ti]
      unfold f119
      rw [nmulL, naddN, if_pos z32, nxN (show 8 * v + i < 2 ^ 31 by omega), if_neg (by rw [b1]; exact q), if_pos z32, if_pos z32, zlet]
      rfl
    · rw [e242, M1, if_neg q]
      unfold f258_251
      cases f237 n (nI i) _ <;> rfl
theorem act_27 (hb : bR B C n) (h : aH G F W B C x y i D r s t) (h69 : t.1 1132 69 = 0) (hk : G 10 r = 27) : pR G B C x y (cP n i r s) (mP n i r t) := by
  have hr := aH_r h
  obtain ⟨hxx, hyy, r9, r11, w3, w4, w6, zr, z8, hi⟩ := aH_k h
  obtain ⟨k9, k6, k0⟩ := gck9 hxx
  have k12 := gck12 hyy
  have e15 : t.1 (y + 15) r = 27 := by rw [w4, hk]; rfl
  obtain ⟨hA, hE⟩ := tO_27 hk w6
  have c1 := work_0 hb.1 h hE
  have h2 : aH G F W B C x y i D r (sI s 1007 16 0) t := aH_sc scC_160 scM_rf h
  generalize hs2 : sI s 1007 16 0 = s2 at c1 h2
  have o1 : scC s s2 := by rw [← hs2]; exact scC_160
  have r9' : s2.2.2 1007 9 = some (x + 19) := by rw [o1.1]; exact r9
  have e20 : s2.1 (x + 19 + 1) r = 174 := by
    have : s2.1 (x + 20) r = nI 174 := zk_lit hk rfl (aH_k h2).2.2.2.2.1
    exact this
  have e242 : f242 n (nI i) (nI r) t = yb0 (f260 n (nI i) (nI r) t) fun u1 => some u1 := by
    unfold f242
    rw [r11, grd k12, if_pos zr, nxN (show r < 2 ^ 31 by omega), if_neg (show ¬ _ = (1 : Int32) by rw [e15]; decide), if_neg (show ¬ _ = (2 : Int32) by rw [e15]; decide), if_neg (show ¬ _ = (3 : Int32) by rw [e15]; decide), if_neg (show ¬ _ = (4 : Int32) by rw [e15]; decide), if_neg (show ¬ _ = (5 : Int32) by rw [e15]; decide), if_neg (show ¬ _ = (6 : Int32) by rw [e15]; decide), if_neg (show ¬ _ = (7 : Int32) by rw [e15]; decide), if_neg (show ¬ _ = (8 : Int32) by rw [e15]; decide), if_neg (show ¬ _ = (9 : Int32) by rw [e15]; decide), if_neg (show ¬ _ = (10 : Int32) by rw [e15]; decide), if_neg (show ¬ _ = (11 : Int32) by rw [e15]; decide), if_neg (show ¬ _ = (12 : Int32) by rw [e15]; decide), if_neg (show ¬ _ = (13 : Int32) by rw [e15]; decide), if_neg (show ¬ _ = (14 : Int32) by rw [e15]; decide), if_neg (show ¬ _ = (15 : Int32) by rw [e15]; decide), if_neg (show ¬ _ = (22 : Int32) by rw [e15]; decide), if_neg (show ¬ _ = (23 : Int32) by rw [e15]; decide), if_neg (show ¬ _ = (24 : Int32) by rw [e15]; decide), if_neg (show ¬ _ = (25 : Int32) by rw [e15]; decide), if_neg (show ¬ _ = (26 : Int32) by rw [e15]; decide), if_pos e15]
    rfl
  obtain ⟨u, v, hu0, hv, e17, e33, e21⟩ := hA
  have z14 : zin? (nI u) 1400 = true := (zinN (by omega)).mpr hu0
  have n33 := nxN (show u < 2 ^ 31 by omega)
  have nr := nxN (show r < 2 ^ 31 by omega)
  have hm := h.1.1.2.1.1.2.1
  have e21' : s2.1 (x + 19 + 2) r = nI v := by
    have : s2.1 (x + 21) r = s.1 (x + 21) r := by rw [scC_a o1 (by omega) (by omega) (by omega) (by omega)]
    rw [← e21]
    exact this
  have z4 : zin? (nI v) 4 = true := (zinN (by omega)).mpr (by omega)
  obtain ⟨⟨d1, d2, d3, d4, d5, d6, d7, d8, d9, d10, d11⟩, dE⟩ := aH_d h2
  have h3 : aH G F W B C x y i D r (sI s2 1027 v 0) (sI t 1214 v 0) := by
    refine aH_glob h2 ⟨rfl, fun a ha => by simp (disch := omega) only [hIo]⟩ ⟨rfl, fun a q1 q2 q3 => by simp (disch := omega) only [hIo], by simp (disch := omega) only [hIo, hIk]⟩ ⟨?_, ?_, ?_, ?_, ?_, ?_, ?_, ?_, ?_, ?_, ?_⟩ ?_
    · unfold rA at d1 ⊢; simp (disch := omega) only [hIo, hIk]; exact d1
    · unfold rB at d2 ⊢; simp (disch := omega) only [hIo, hIk]; exact d2
    · unfold rV at d3 ⊢; simp (disch := omega) only [hIo, hIk]; exact d3
    · unfold rW at d4 ⊢; simp (disch := omega) only [hIo, hIk]; exact d4
    · unfold rS at d5 ⊢; simp (disch := omega) only [hIo, hIk]; exact d5
    · unfold rL at d6 ⊢; simp (disch := omega) only [hIo, hIk]; exact d6
    · unfold rI at d7 ⊢; simp (disch := omega) only [hIo, hIk]; exact d7
    · unfold rO at d8 ⊢; simp (disch := omega) only [hIo, hIk]; exact d8
    · intro k hk
      obtain ⟨a1, a2, a3, a4, a5⟩ := d9 k hk
      simp (disch := omega) only [hIo]
      by_cases e : k = v
      · subst e
        exact ⟨by rw [hIe, hIe], a2, a3, Or.inl hIe, a5⟩
      · rw [hIk e, hIk e]
        exact ⟨a1, a2, a3, a4, a5⟩
    · unfold rH at d10 ⊢; simp (disch := omega) only [hIo, hIk]; exact d10
    · unfold rC at d11 ⊢; simp (disch := omega) only [hIo, hIk]; exact d11
    · unfold rE at dE ⊢; simp (disch := omega) only [hIo, hIk]; exact dE
  refine on_2 (by omega) hb h3 (by rw [hIo (by decide)]; exact h69) c1 ?_ ?_
  · unfold f97
    rw [r9', grd k6, if_pos zr, zlet, if_pos z0_64, zlet, grd k6, if_pos zr, nxN (show r < 2 ^ 31 by omega), x0_n, if_neg (show ¬ _ = (1 : Int32) by rw [e20]; decide), if_neg (show ¬ _ = (91 : Int32) by rw [e20]; decide), if_neg (show ¬ _ = (149 : Int32) by rw [e20]; decide), if_neg (show ¬ _ = (150 : Int32) by rw [e20]; decide), if_neg (show ¬ _ = (151 : Int32) by rw [e20]; decide), if_neg (show ¬ _ = (152 : Int32) by rw [e20]; decide), if_neg (show ¬ _ = (154 : Int32) by rw [e20]; decide), if_neg (show ¬ _ = (155 : Int32) by rw [e20]; decide), if_neg (show ¬ _ = (156 : Int32) by rw [e20]; decide), if_neg (show ¬ _ = (157 : Int32) by rw [e20]; decide), if_neg (show ¬ _ = (158 : Int32) by rw [e20]; decide), if_neg (show ¬ _ = (159 : Int32) by rw [e20]; decide), if_neg (show ¬ _ = (160 : Int32) by rw [e20]; decide), if_neg (show ¬ _ = (161 : Int32) by rw [e20]; decide), if_neg (show ¬ _ = (162 : Int32) by rw [e20]; decide), if_neg (show ¬ _ = (163 : Int32) by rw [e20]; decide), if_neg (show ¬ _ = (164 : Int32) by rw [e20]; decide), if_neg (show ¬ _ = (165 : Int32) by rw [e20]; decide), if_neg (show ¬ _ = (166 : Int32) by rw [e20]; decide), if_neg (show ¬ _ = (172 : Int32) by rw [e20]; decide), if_neg (show ¬ _ = (173 : Int32) by rw [e20]; decide), if_pos e20, e21', if_pos z4, nxN (show v < 2 ^ 31 by omega), gnar0, zlet]
  · rw [e242]
    unfold f260
    rw [r11, grd k12, if_pos zr, zlet, nr, if_neg (show ¬ _ = (22 : Int32) by rw [e15]; decide), if_neg (show ¬ _ = (28 : Int32) by rw [e15]; decide), grd k12, grd k12, if_pos zr, e17, if_pos z14, n33, e33, zlet, if_neg (show ¬ _ = (25 : Int32) by rw [e15]; decide), if_pos e15, if_pos z4, nxN (show v < 2 ^ 31 by omega), gnar0, zlet]
    unfold f260_210
    cases f237 n (nI i) _ <;> rfl
end ZAF
