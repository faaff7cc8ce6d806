/-! the act enter, whole -/
section ZBE
variable {G W : Nat → Nat → Nat} {F : Nat → Nat → Nat → Nat} {B C x y n i D r : Nat} {s t : zσ}
theorem act_14 (hb : bR B C n) (hC : C < 799999999) (h : aH G F W B C x y i D r s t) (h69 : t.1 1132 69 = 0) (hk : G 10 r = 14) (ha : s.1 (1036 + 3 * i) 3 = 1) : pR G B C x y (cP n i r s) (mP n i r t) := by
  have hr := aH_r h
  obtain ⟨hxx, hyy, r9, r11, w3, w4, w6, zr, z8, hi⟩ := aH_k h
  obtain ⟨k9, k6, k0⟩ := gck9 hxx
  have k12 := gck12 hyy
  have e15 : t.1 (y + 15) r = 14 := by rw [w4, hk]; rfl
  obtain ⟨hA, hE⟩ := tO_14 hk w6
  have c1 := work_0 hb.1 h hE
  have h2 : aH G F W B C x y i D r (sI s 1007 16 0) t := aH_sc scC_160 scM_rf h
  generalize hs2 : sI s 1007 16 0 = s2 at c1 h2
  have o1 : scC s s2 := by rw [← hs2]; exact scC_160
  have r9' : s2.2.2 1007 9 = some (x + 19) := by rw [o1.1]; exact r9
  have e20 : s2.1 (x + 19 + 1) r = 163 := by
    have : s2.1 (x + 20) r = nI 163 := zk_lit hk rfl (aH_k h2).2.2.2.2.1
    exact this
  have e242 : f242 n (nI i) (nI r) t = yb0 (f258 n (nI i) (nI r) t) fun u1 => some u1 := by
    unfold f242
    rw [r11, grd k12, if_pos zr, nxN (show r < 2 ^ 31 by omega), if_neg (show ¬ _ = (1 : Int32) by rw [e15]; decide), if_neg (show ¬ _ = (2 : Int32) by rw [e15]; decide), if_neg (show ¬ _ = (3 : Int32) by rw [e15]; decide), if_neg (show ¬ _ = (4 : Int32) by rw [e15]; decide), if_neg (show ¬ _ = (5 : Int32) by rw [e15]; decide), if_neg (show ¬ _ = (6 : Int32) by rw [e15]; decide), if_neg (show ¬ _ = (7 : Int32) by rw [e15]; decide), if_neg (show ¬ _ = (8 : Int32) by rw [e15]; decide), if_neg (show ¬ _ = (9 : Int32) by rw [e15]; decide), if_neg (show ¬ _ = (10 : Int32) by rw [e15]; decide), if_neg (show ¬ _ = (11 : Int32) by rw [e15]; decide), if_neg (show ¬ _ = (12 : Int32) by rw [e15]; decide), if_neg (show ¬ _ = (13 : Int32) by rw [e15]; decide), if_pos e15]
    rfl
  obtain ⟨u, v, hu0, hv, e17, e33, e21⟩ := hA
  have z14 : zin? (nI u) 1400 = true := (zinN (by omega)).mpr hu0
  have n33 := nxN (show u < 2 ^ 31 by omega)
  have nr := nxN (show r < 2 ^ 31 by omega)
  have hm := h.1.1.2.1.1.2.1
  have e21' : s2.1 (x + 19 + 2) r = nI v := by
    have : s2.1 (x + 21) r = s.1 (x + 21) r := by rw [scC_a o1 (by omega) (by omega) (by omega) (by omega)]
    rw [← e21]
    exact this
  have hv4 : v < 4 := by omega
  have z4 : zin? (nI v) 4 = true := (zinN (by omega)).mpr hv4
  have nv := nxN (show v < 2 ^ 31 by omega)
  have ha2 : s2.1 (1036 + 3 * i) 3 = 1 := by
    rw [scC_a o1 (by omega) (by omega) (by omega) (by omega)]
    exact ha
  have h3 := req_has hb h2 ha2
  have e97 : f97 n (1036 + 3 * i) (nI r) s2 = yb1 (f107 n (1036 + 3 * i) (nI r) (sI (sI s2 1007 15 (nI (W 4 0 + 1))) (1036 + 3 * i) 12 (nI (W 4 0 + 1)))) fun v4 u3 => if v4 = (0 : Int32) then some ((-1 : Int32), sI u3 (1036 + 3 * i) 3 3) else yb0 (f114 n (1036 + 3 * i) (nI r) u3) fun u5 => some ((0 : Int32), u5) := by
    unfold f97
    rw [r9', grd k6, if_pos zr, zlet, if_pos z0_64, zlet, grd k6, if_pos zr, nxN (show r < 2 ^ 31 by omega), x0_n, if_neg (show ¬ _ = (1 : Int32) by rw [e20]; decide), if_neg (show ¬ _ = (91 : Int32) by rw [e20]; decide), if_neg (show ¬ _ = (149 : Int32) by rw [e20]; decide), if_neg (show ¬ _ = (150 : Int32) by rw [e20]; decide), if_neg (show ¬ _ = (151 : Int32) by rw [e20]; decide), if_neg (show ¬ _ = (152 : Int32) by rw [e20]; decide), if_neg (show ¬ _ = (154 : Int32) by rw [e20]; decide), if_neg (show ¬ _ = (155 : Int32) by rw [e20]; decide), if_neg (show ¬ _ = (156 : Int32) by rw [e20]; decide), if_neg (show ¬ _ = (157 : Int32) by rw [e20]; decide), if_neg (show ¬ _ = (158 : Int32) by rw [e20]; decide), if_neg (show ¬ _ = (159 : Int32) by rw [e20]; decide), if_neg (show ¬ _ = (160 : Int32) by rw [e20]; decide), if_neg (show ¬ _ = (161 : Int32) by rw [e20]; decide), if_neg (show ¬ _ = (162 : Int32) by rw [e20]; decide), if_pos e20]
    unfold f97_406
    rw [gyT, c_106 h2]
  have eS : ∀ k, (sI (sI s2 1007 15 (nI (W 4 0 + 1))) (1036 + 3 * i) 12 (nI (W 4 0 + 1))).1 (x + 19 + k) = s2.1 (x + 19 + k) := fun k => by simp (disch := omega) only [hIo]
  have eJ : ∀ j, j ≠ i → (sI (sI s2 1007 15 (nI (W 4 0 + 1))) (1036 + 3 * i) 12 (nI (W 4 0 + 1))).1 (1036 + 3 * j) = s2.1 (1036 + 3 * j) := fun j hj => by simp (disch := omega) only [hIo]
  have eI : (sI (sI s2 1007 15 (nI (W 4 0 + 1))) (1036 + 3 * i) 12 (nI (W 4 0 + 1))).1 (1036 + 3 * i) 12 = nI (W 4 0 + 1) := hIe
  have eI3 : (sI (sI s2 1007 15 (nI (W 4 0 + 1))) (1036 + 3 * i) 12 (nI (W 4 0 + 1))).1 (1036 + 3 * i) 3 = 1 := by
    rw [hIk (by decide), hIo (by omega)]
    exact ha2
  generalize hs3 : (sI (sI s2 1007 15 (nI (W 4 0 + 1))) (1036 + 3 * i) 12 (nI (W 4 0 + 1))) = s3 at e97 h3 eS eJ eI eI3
  have r93 : s3.2.2 1007 9 = some (x + 19) := by rw [← hs3]; exact r9'
  have hR2 := aH_run h2
  have hR3 := aH_run h3
  have wC : W 4 0 ≤ C ∧ C < 1000000000 := by
    obtain ⟨-, -, ⟨-, -, -, -, -, -, -, -, -, -, d11⟩, -⟩ := hR2
    exact ⟨d11.2.2.1, d11.2.2.2.2⟩
  have hst : ∀ j, j < 8 → (s3.1 (1036 + 3 * j) 3 = 3 ∨ s3.1 (1036 + 3 * j) 3 = 4) → s3.1 (1036 + 3 * j) 12 < s3.1 (1036 + 3 * i) 12 := by
    intro j hj q
    have ji : j ≠ i := fun e => by
      rw [e, eI3] at q
      rcases q with q | q <;> exact absurd q (by decide)
    rw [eJ j ji] at q ⊢
    obtain ⟨-, ⟨a, kk, a4, t1, t2, -, -, -, -, -, -, -, t11⟩, -⟩ := hR2.2.2.2.2.1 j hj (by omega)
    have a31 : a < 2 ^ 31 := Nat.lt_of_le_of_lt a4 (by decide)
    have a34 : a = 3 ∨ a = 4 := by
      rcases q with q | q
      · exact Or.inl ((neqN (b := 3) a31 (by decide)).mp (t1.symm.trans q))
      · exact Or.inr ((neqN (b := 4) a31 (by decide)).mp (t1.symm.trans q))
    obtain ⟨g1, -, g3, -⟩ := t11 a34
    rw [g1, eI]
    exact (nltN (by omega) (by omega)).mpr (by omega)
  obtain ⟨⟨d1, d2, d3, d4, d5, d6, d7, d8, d9, d10, d11⟩, dE⟩ := aH_d h3
  have n20 : 20 ≤ n := by have := hb.1; omega
  have h88 := (h.1.1.2.1.1.1 8 (by decide)).2.2
  obtain ⟨l1, l2⟩ := d6.1 v hv4
  have i0 : s3.1 (1036 + 3 * i) 0 = nI i := h3.1.2.1.1
  have e20s : s3.1 (x + 19 + 1) r = 163 := by rw [eS]; exact e20
  have e21s : s3.1 (x + 19 + 2) r = nI v := by rw [eS]; exact e21'
  have z32 : zin? (nI (8 * v + i)) 32 = true := (zinN (by omega)).mpr (by omega)
  have e107 : f107 n (1036 + 3 * i) (nI r) s3 = (if s3.1 1016 v = -1 then yb1 (f111 n (nI v) (1036 + 3 * i) s3) fun v9 u8 => if v9 = (0 : Int32) then some ((1 : Int32), u8) else some ((0 : Int32), u8) else some ((0 : Int32), s3)) := by
    unfold f107
    rw [r93, grd k6, if_pos zr, zlet, grd k6, if_pos zr, nr, if_neg (show ¬ _ = (159 : Int32) by rw [e20s]; decide), if_neg (show ¬ _ = (161 : Int32) by rw [e20s]; decide), if_neg (show ¬ _ = (165 : Int32) by rw [e20s]; decide), e21s, if_pos z4, nv]
  have e114 : f114 n (1036 + 3 * i) (nI r) s3 = some (sI s3 1017 (8 * v + i) (s3.1 1017 (8 * v + i) + 1)) := by
    unfold f114
    rw [r93, grd k6, if_pos zr, zlet, grd k6, if_pos zr, nr, if_neg (show ¬ _ = (159 : Int32) by rw [e20s]; decide), if_neg (show ¬ _ = (161 : Int32) by rw [e20s]; decide), if_neg (show ¬ _ = (165 : Int32) by rw [e20s]; decide), e21s, i0, nmulL, naddN, if_pos z32, if_pos z32, nxN (show 8 * v + i < 2 ^ 31 by omega)]
    rfl
  have eM : f242 n (nI i) (nI r) t = (if s3.1 1016 v = -1 then f258_131 n n (nI i) (nI v) 1 (nI 0) t else f258_131 n n (nI i) (nI v) 0 (nI 0) t) := by
    rw [e242, gyS]
    unfold f258 f258_126
    rw [r11, grd k12, grd k12, if_pos zr, nr, e17, if_pos z14, zlet, n33, e33, grd k12, if_pos zr, zlet, if_neg (show ¬ _ = (12 : Int32) by rw [e15]; decide), if_neg (show ¬ _ = (13 : Int32) by rw [e15]; decide), if_pos e15, if_pos z4, nv, ← l1]
    rfl
  have wt : f107 n (1036 + 3 * i) (nI r) s3 = some (0, s3) → f242 n (nI i) (nI r) t = f257 n (nI i) t → pR G B C x y (cP n i r s) (mP n i r t) := by
    intro q1 q2
    refine req_wait (Or.inr (Or.inr (Or.inl hk))) hb h2 ha2 h69 c1 ?_ q2
    rw [e97, q1, gy1, if_pos rfl, hs3]
  by_cases q1 : s3.1 1016 v = -1
  · rw [if_pos q1] at e107 eM
    rcases enter_L (n := n) (v := v) hR3 hv4 hi (by rw [eI3]; decide) hst (G 6 8) 0 n n (by omega) (by omega) (by omega) with ⟨g1, g2⟩ | ⟨g1, g2⟩
    · refine wt ?_ (by rw [eM, g2])
      rw [e107, show f111 n (nI v) (1036 + 3 * i) s3 = some (1, s3) from g1, gy1, if_neg (by decide)]
    · have e107' : f107 n (1036 + 3 * i) (nI r) s3 = some (1, s3) := by
        rw [e107, show f111 n (nI v) (1036 + 3 * i) s3 = some (0, s3) from g1, gy1, if_pos rfl]
      have h4 : aH G (Ft F i D r) (Wt W) B (C + 1) x y i D r (sI s3 1017 (8 * v + i) (s3.1 1017 (8 * v + i) + 1)) (sI t 1213 (8 * v + i) (t.1 1213 (8 * v + i) + 1)) := by
        refine aH_glob h3 ⟨rfl, fun a ha => by simp (disch := omega) only [hIo]⟩ ⟨rfl, fun a q1 q2 q3 => by simp (disch := omega) only [hIo], by simp (disch := omega) only [hIo, hIk]⟩ ⟨?_, ?_, ?_, ?_, ?_, ?_, ?_, ?_, ?_, ?_, ?_⟩ ?_
        · unfold rA at d1 ⊢; simp (disch := omega) only [hIo, hIk]; exact d1
        · unfold rB at d2 ⊢; simp (disch := omega) only [hIo, hIk]; exact d2
        · unfold rV at d3 ⊢; simp (disch := omega) only [hIo, hIk]; exact d3
        · unfold rW at d4 ⊢; simp (disch := omega) only [hIo, hIk]; exact d4
        · unfold rS at d5 ⊢; simp (disch := omega) only [hIo, hIk]; exact d5
        · refine ⟨fun b hb4 => ?_, fun j hj => ?_⟩
          · rw [hIo (by decide), hIo (by decide)]
            exact d6.1 b hb4
          · by_cases e : j = 8 * v + i
            · rw [e, hIe, hIe, d6.2 _ (by omega)]
            · rw [hIk e, hIk e]
              exact d6.2 j hj
        · unfold rI at d7 ⊢; simp (disch := omega) only [hIo, hIk]; exact d7
        · unfold rO at d8 ⊢; simp (disch := omega) only [hIo, hIk]; exact d8
        · unfold rP at d9 ⊢; simp (disch := omega) only [hIo, hIk]; exact d9
        · unfold rH at d10 ⊢; simp (disch := omega) only [hIo, hIk]; exact d10
        · unfold rC at d11 ⊢; simp (disch := omega) only [hIo, hIk]; exact d11
        · unfold rE at dE ⊢; simp (disch := omega) only [hIo, hIk]; exact dE
      exact on_3 (Nat.le_refl _) hb hC h4 (by rw [hIo (by decide)]; exact h69) c1 (by rw [e97, e107', gy1, if_neg (by decide), e114]; rfl) (by rw [eM, g2])
  · rw [if_neg q1] at e107 eM
    exact wt e107 (by rw [eM, m_131z hR3 (G 6 8) 0 n (by omega) (by omega)])
end ZBE
