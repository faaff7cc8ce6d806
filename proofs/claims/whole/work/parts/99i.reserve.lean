/-! the act reserve -/
section ZBA
variable {G W : Nat → Nat → Nat} {F : Nat → Nat → Nat → Nat} {B C x y n i D r v : Nat} {s t s2 t2 : zσ}
theorem aH_W (h : aH G F W B C x y i D r s2 t2) : s2.1 1007 15 = nI (W 4 0) ∧ t2.1 1132 30 = nI (W 4 1) := by
  obtain ⟨⟨d1, d2, d3, d4, d5, d6, d7, d8, d9, d10, d11⟩, dE⟩ := aH_d h
  exact ⟨d11.1, d11.2.1⟩
theorem c_106 (h : aH G F W B C x y i D r s2 t2) : f106 n (1036 + 3 * i) (nI r) s2 = yb1 (f107 n (1036 + 3 * i) (nI r) (sI (sI s2 1007 15 (nI (W 4 0 + 1))) (1036 + 3 * i) 12 (nI (W 4 0 + 1)))) fun v4 u3 => if v4 = (0 : Int32) then some ((-1 : Int32), sI u3 (1036 + 3 * i) 3 3) else yb0 (f114 n (1036 + 3 * i) (nI r) u3) fun u5 => some ((0 : Int32), u5) := by
  unfold f106
  rw [zlet, zlet, (aH_W h).1, nI_1]
  rfl
/-- it waits -/
theorem req_wait (hzk : zwK G r) (hb : bR B C n) (h : aH G F W B C x y i D r s2 t2) (ha : s2.1 (1036 + 3 * i) 3 = 1) (h69 : t2.1 1132 69 = 0) (c1 : f90 n (1036 + 3 * i) (nI r) s = some (0, s2)) (hC : f97 n (1036 + 3 * i) (nI r) s2 = some (-1, sI (sI (sI s2 1007 15 (nI (W 4 0 + 1))) (1036 + 3 * i) 12 (nI (W 4 0 + 1))) (1036 + 3 * i) 3 3)) (hM : f242 n (nI i) (nI r) t = f257 n (nI i) t2) : pR G B C x y (cP n i r s) (mP n i r t) := by
  have hi := CL_i h.1
  have z8 : zin? (nI i) 8 = true := (zinN (by omega)).mpr hi
  have l := hb.2.1
  have hD := h.1.2.2.2.2.2.2.2.2.1
  have hw := wait_ok (aH_run h) hi (by omega) ha (by
    have e3 : Ft F i D r i 3 0 = D := by simp [Ft]
    have e1 : Ft F i D r i 1 (D - 1) = r := by simp [Ft, show D - 1 + 1 = D by omega]
    rw [e3, e1]; exact hzk)
  refine ⟨_, _, _, _, B, C + 1, ?_, ?_, hw, by omega, by omega⟩
  · unfold cP
    rw [c1, gy1, if_pos rfl, hC, gy1]
    unfold f89_41
    rw [if_neg (by decide), if_neg (by decide), if_neg (by decide), if_neg (by decide)]
  · have e : f257 n (nI i) t2 = some (sI (sI (sI t2 1225 i 3) 1228 i (nI (W 4 1))) 1132 30 (nI (W 4 1 + 1))) := by
      unfold f257
      rw [if_pos z8, zlet, if_pos z8, zlet, zlet, nxN (show i < 2 ^ 31 by omega)]
      simp (disch := omega) only [hIo, (aH_W h).2, nI_1]
    unfold mP
    rw [hM, e, gy0, if_pos (by simp (disch := omega) only [hIo, hIk]; exact h69)]
/-- it has -/
theorem req_has (hb : bR B C n) (h : aH G F W B C x y i D r s2 t2) (ha : s2.1 (1036 + 3 * i) 3 = 1) : aH G (Ft F i D r) (Wt W) B (C + 1) x y i D r (sI (sI s2 1007 15 (nI (W 4 0 + 1))) (1036 + 3 * i) 12 (nI (W 4 0 + 1))) t2 := by
  have hi := CL_i h.1
  have l := hb.2.1
  refine aH_back h (asks_ok (aH_run h) hi (by omega) ha) ?_ rfl rfl
  rw [hIk (by decide), hIo (by omega), ha]
  decide
theorem act_12 (hb : bR B C n) (hC : C < 799999999) (h : aH G F W B C x y i D r s t) (h69 : t.1 1132 69 = 0) (hk : G 10 r = 12) (ha : s.1 (1036 + 3 * i) 3 = 1) : pR G B C x y (cP n i r s) (mP n i r t) := by
  have hr := aH_r h
  obtain ⟨hxx, hyy, r9, r11, w3, w4, w6, zr, z8, hi⟩ := aH_k h
  obtain ⟨k9, k6, k0⟩ := gck9 hxx
  have k12 := gck12 hyy
  have e15 : t.1 (y + 15) r = 12 := by rw [w4, hk]; rfl
  obtain ⟨hA, hE⟩ := tO_12 hk w6
  have c1 := work_0 hb.1 h hE
  have h2 : aH G F W B C x y i D r (sI s 1007 16 0) t := aH_sc scC_160 scM_rf h
  generalize hs2 : sI s 1007 16 0 = s2 at c1 h2
  have o1 : scC s s2 := by rw [← hs2]; exact scC_160
  have r9' : s2.2.2 1007 9 = some (x + 19) := by rw [o1.1]; exact r9
  have e20 : s2.1 (x + 19 + 1) r = 161 := by
    have : s2.1 (x + 20) r = nI 161 := zk_lit hk rfl (aH_k h2).2.2.2.2.1
    exact this
  have e242 : f242 n (nI i) (nI r) t = yb0 (f258 n (nI i) (nI r) t) fun u1 => some u1 := by
    unfold f242
    rw [r11, grd k12, if_pos zr, nxN (show r < 2 ^ 31 by omega), if_neg (show ¬ _ = (1 : Int32) by rw [e15]; decide), if_neg (show ¬ _ = (2 : Int32) by rw [e15]; decide), if_neg (show ¬ _ = (3 : Int32) by rw [e15]; decide), if_neg (show ¬ _ = (4 : Int32) by rw [e15]; decide), if_neg (show ¬ _ = (5 : Int32) by rw [e15]; decide), if_neg (show ¬ _ = (6 : Int32) by rw [e15]; decide), if_neg (show ¬ _ = (7 : Int32) by rw [e15]; decide), if_neg (show ¬ _ = (8 : Int32) by rw [e15]; decide), if_neg (show ¬ _ = (9 : Int32) by rw [e15]; decide), if_neg (show ¬ _ = (10 : Int32) by rw [e15]; decide), if_neg (show ¬ _ = (11 : Int32) by rw [e15]; decide), if_pos e15]
    rfl
  obtain ⟨u, v, hu0, hv, e17, e33, e21⟩ := hA
  have z14 : zin? (nI u) 1400 = true := (zinN (by omega)).mpr hu0
  have n33 := nxN (show u < 2 ^ 31 by omega)
  have nr := nxN (show r < 2 ^ 31 by omega)
  have hm := h.1.1.2.1.1.2.1
  have e21' : s2.1 (x + 19 + 2) r = nI v := by
    have : s2.1 (x + 21) r = s.1 (x + 21) r := by rw [scC_a o1 (by omega) (by omega) (by omega) (by omega)]
    rw [← e21]
    exact this
  have hv4 : v < 4 := by omega
  have z4 : zin? (nI v) 4 = true := (zinN (by omega)).mpr hv4
  have nv := nxN (show v < 2 ^ 31 by omega)
  have ha2 : s2.1 (1036 + 3 * i) 3 = 1 := by
    rw [scC_a o1 (by omega) (by omega) (by omega) (by omega)]
    exact ha
  have h3 := req_has hb h2 ha2
  have e97 : f97 n (1036 + 3 * i) (nI r) s2 = yb1 (f107 n (1036 + 3 * i) (nI r) (sI (sI s2 1007 15 (nI (W 4 0 + 1))) (1036 + 3 * i) 12 (nI (W 4 0 + 1)))) fun v4 u3 => if v4 = (0 : Int32) then some ((-1 : Int32), sI u3 (1036 + 3 * i) 3 3) else yb0 (f114 n (1036 + 3 * i) (nI r) u3) fun u5 => some ((0 : Int32), u5) := by
    unfold f97
    rw [r9', grd k6, if_pos zr, zlet, if_pos z0_64, zlet, grd k6, if_pos zr, nxN (show r < 2 ^ 31 by omega), x0_n, if_neg (show ¬ _ = (1 : Int32) by rw [e20]; decide), if_neg (show ¬ _ = (91 : Int32) by rw [e20]; decide), if_neg (show ¬ _ = (149 : Int32) by rw [e20]; decide), if_neg (show ¬ _ = (150 : Int32) by rw [e20]; decide), if_neg (show ¬ _ = (151 : Int32) by rw [e20]; decide), if_neg (show ¬ _ = (152 : Int32) by rw [e20]; decide), if_neg (show ¬ _ = (154 : Int32) by rw [e20]; decide), if_neg (show ¬ _ = (155 : Int32) by rw [e20]; decide), if_neg (show ¬ _ = (156 : Int32) by rw [e20]; decide), if_neg (show ¬ _ = (157 : Int32) by rw [e20]; decide), if_neg (show ¬ _ = (158 : Int32) by rw [e20]; decide), if_neg (show ¬ _ = (159 : Int32) by rw [e20]; decide), if_neg (show ¬ _ = (160 : Int32) by rw [e20]; decide), if_pos e20]
    unfold f97_406
    rw [gyT, c_106 h2]
  have eS : ∀ k, (sI (sI s2 1007 15 (nI (W 4 0 + 1))) (1036 + 3 * i) 12 (nI (W 4 0 + 1))).1 (x + 19 + k) = s2.1 (x + 19 + k) := fun k => by simp (disch := omega) only [hIo]
  generalize hs3 : (sI (sI s2 1007 15 (nI (W 4 0 + 1))) (1036 + 3 * i) 12 (nI (W 4 0 + 1))) = s3 at e97 h3 eS
  have r93 : s3.2.2 1007 9 = some (x + 19) := by rw [← hs3]; exact r9'
  obtain ⟨⟨d1, d2, d3, d4, d5, d6, d7, d8, d9, d10, d11⟩, dE⟩ := aH_d h3
  have n20 : 20 ≤ n := by have := hb.1; omega
  have ec := c_ent (s := s3) n20 hv4
  have em := m_ent n20 hv4 d6
  obtain ⟨l1, l2⟩ := d6.1 v hv4
  have i0 : s3.1 (1036 + 3 * i) 0 = nI i := h3.1.2.1.1
  have e20s : s3.1 (x + 19 + 1) r = 161 := by rw [eS]; exact e20
  have e21s : s3.1 (x + 19 + 2) r = nI v := by rw [eS]; exact e21'
  have e107 : f107 n (1036 + 3 * i) (nI r) s3 = (if s3.1 1016 v = -1 then if bsum v s3 = 0 then some ((1 : Int32), s3) else some ((0 : Int32), s3) else some ((0 : Int32), s3)) := by
    unfold f107
    rw [r93, grd k6, if_pos zr, zlet, grd k6, if_pos zr, nr, if_neg (show ¬ _ = (159 : Int32) by rw [e20s]; decide), if_pos e20s, e21s, if_pos z4, nv, ec, gy1]
  have e114 : f114 n (1036 + 3 * i) (nI r) s3 = some (sI s3 1016 v (nI i)) := by
    unfold f114
    rw [r93, grd k6, if_pos zr, zlet, grd k6, if_pos zr, nr, if_neg (show ¬ _ = (159 : Int32) by rw [e20s]; decide), if_pos e20s, e21s, if_pos z4, nv, i0]
    rfl
  have eM : f242 n (nI i) (nI r) t = (if s3.1 1016 v = -1 then if bsum v s3 = 0 then f237 n (nI i) (sI t 1212 v (nI i)) else f257 n (nI i) t else f257 n (nI i) t) := by
    rw [e242, gyS]
    unfold f258
    rw [r11, grd k12, grd k12, if_pos zr, nr, e17, if_pos z14, zlet, n33, e33, grd k12, if_pos zr, zlet, if_pos e15, if_pos z4, nv, ← l1, em, gy1, if_pos z4, zlet]
    unfold f258_251 f258_64
    rw [gyS, gyS]
  have wt : f107 n (1036 + 3 * i) (nI r) s3 = some (0, s3) → f242 n (nI i) (nI r) t = f257 n (nI i) t → pR G B C x y (cP n i r s) (mP n i r t) := by
    intro q1 q2
    refine req_wait (Or.inr (Or.inl hk)) hb h2 ha2 h69 c1 ?_ q2
    rw [e97, q1, gy1, if_pos rfl, hs3]
  by_cases q1 : s3.1 1016 v = -1
  · by_cases q2 : bsum v s3 = 0
    · rw [if_pos q1, if_pos q2] at e107 eM
      have h4 : aH G (Ft F i D r) (Wt W) B (C + 1) x y i D r (sI s3 1016 v (nI i)) (sI t 1212 v (nI i)) := by
        refine aH_glob h3 ⟨rfl, fun a ha => by simp (disch := omega) only [hIo]⟩ ⟨rfl, fun a q1 q2 q3 => by simp (disch := omega) only [hIo], by simp (disch := omega) only [hIo, hIk]⟩ ⟨?_, ?_, ?_, ?_, ?_, ?_, ?_, ?_, ?_, ?_, ?_⟩ ?_
        · unfold rA at d1 ⊢; simp (disch := omega) only [hIo, hIk]; exact d1
        · unfold rB at d2 ⊢; simp (disch := omega) only [hIo, hIk]; exact d2
        · unfold rV at d3 ⊢; simp (disch := omega) only [hIo, hIk]; exact d3
        · unfold rW at d4 ⊢; simp (disch := omega) only [hIo, hIk]; exact d4
        · unfold rS at d5 ⊢; simp (disch := omega) only [hIo, hIk]; exact d5
        · refine ⟨fun b hb4 => ?_, fun j hj => ?_⟩
          · by_cases e : b = v
            · subst e
              exact ⟨by rw [hIe, hIe], Or.inr ⟨i, hi, hIe⟩⟩
            · rw [hIk e, hIk e]
              exact d6.1 b hb4
          · rw [hIo (by decide), hIo (by decide)]
            exact d6.2 j hj
        · unfold rI at d7 ⊢; simp (disch := omega) only [hIo, hIk]; exact d7
        · unfold rO at d8 ⊢; simp (disch := omega) only [hIo, hIk]; exact d8
        · unfold rP at d9 ⊢; simp (disch := omega) only [hIo, hIk]; exact d9
        · unfold rH at d10 ⊢; simp (disch := omega) only [hIo, hIk]; exact d10
        · unfold rC at d11 ⊢; simp (disch := omega) only [hIo, hIk]; exact d11
        · unfold rE at dE ⊢; simp (disch := omega) only [hIo, hIk]; exact dE
      exact on_3 (Nat.le_refl _) hb hC h4 (by rw [hIo (by decide)]; exact h69) c1 (by rw [e97, e107, gy1, if_neg (by decide), e114]; rfl) eM
    · rw [if_pos q1, if_neg q2] at e107 eM
      exact wt e107 eM
  · rw [if_neg q1] at e107 eM
    exact wt e107 eM
end ZBA
