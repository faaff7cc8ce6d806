/-! the acts: set, if, while, return, induce, log -/
section ZAD
variable {G W : Nat → Nat → Nat} {F : Nat → Nat → Nat → Nat} {B C x y n i D r : Nat} {s t : zσ}
theorem act_1 (hb : bR B C n) (h : aH G F W B C x y i D r s t) (h69 : t.1 1132 69 = 0) (hk : G 10 r = 1) : pR G B C x y (cP n i r s) (mP n i r t) := by
  have hr := aH_r h
  obtain ⟨hxx, hyy, r9, r11, w3, w4, w6, zr, z8, hi⟩ := aH_k h
  obtain ⟨k9, k6, k0⟩ := gck9 hxx
  have k12 := gck12 hyy
  have e20 : s.1 (x + 20) r = nI 1 := zk_lit hk rfl w3
  have e15 : t.1 (y + 15) r = 1 := by rw [w4, hk]; rfl
  obtain ⟨hV, hE⟩ := tO_1 hk w6
  obtain ⟨s2, t2, o1, o2, o3⟩ := work_1 hb.1 h h69 hE
  have t11 : t2.2.2 1132 11 = some y := by rw [o2.1]; exact r11
  rcases o3 with ⟨c1, m1, m2⟩ | ⟨w, w1, w2, c1, m1, m2⟩
  · have h2 := aH_sc o1 o2 h
    have hV2 : uV G y (F i 0 (D - 1)) t2 (s2.1 (x + 21) r) (t2.1 (y + 17) r) := by
      have := tO_1 hk (aH_k h2).2.2.2.2.2.2.1
      rw [← h.2.2.1]
      exact this.1
    obtain ⟨s3, t3, a1, a2, a3, a4, a5, a6, a7⟩ := CL_assign (n := n) (s2.1 1033 0) (by have := hb.1; omega) h2.1 hV2
    have h3 : aH G F W B C x y i D r s3 t3 := ⟨a3, h.2.1, h.2.2.1, by rw [a4]; exact h2.2.2.2.1, by rw [a5]; exact h2.2.2.2.2⟩
    refine on_2 (by omega) hb h3 (by rw [a7.2.2.2.2.2.2.2]; exact m1) c1 (s1 := s2) ?_ ?_
    · have e20' : s2.1 (x + 19 + 1) r = 1 := by
        have : s2.1 (x + 20) r = nI 1 := zk_lit hk rfl (aH_k h2).2.2.2.2.1
        exact this
      have r9' : s2.2.2 1007 9 = some (x + 19) := by rw [o1.1]; exact r9
      have a1' : f98 n (1036 + 3 * i) (s2.1 (x + 19 + 2) r) (s2.1 1033 0) s2 = some s3 := a1
      unfold f97
      rw [r9', grd k6, if_pos zr, zlet, if_pos z0_64, zlet, grd k6, if_pos zr, nxN (show r < 2 ^ 31 by omega), x0_n, if_pos e20', a1', gy0]
    · unfold f242
      rw [r11, grd k12, if_pos zr, nxN (show r < 2 ^ 31 by omega), if_pos e15, grd k12, nLmul, if_pos z8, nxN (show 4 * r < 2 ^ 31 by omega), m2, gy1, m1, if_pos rfl, t11, grd k12, if_pos zr, a2, gy0]
      cases f237 n (nI i) t3 <;> rfl
  · have nz : ¬ nI w = 0 := fun q => by have := (neq0 (show w < 2 ^ 31 by omega)).mp q; omega
    refine sig_1 hb h o1 o2 ⟨w1, w2⟩ m1 c1 ?_
    unfold f242
    rw [r11, grd k12, if_pos zr, nxN (show r < 2 ^ 31 by omega), if_pos e15, grd k12, nLmul, if_pos z8, nxN (show 4 * r < 2 ^ 31 by omega), m2, gy1, m1, if_neg nz]
/-- if and while -/
theorem act_5 (hb : bR B C n) (h : aH G F W B C x y i D r s t) (h69 : t.1 1132 69 = 0) (hk : G 10 r = 5 ∨ G 10 r = 6) : pR G B C x y (cP n i r s) (mP n i r t) := by
  have hr := aH_r h
  obtain ⟨hxx, hyy, r9, r11, w3, w4, w6, zr, z8, hi⟩ := aH_k h
  obtain ⟨k9, k6, k0⟩ := gck9 hxx
  have k12 := gck12 hyy
  have n7 := h.1.1.2.1.1.2.2.1.2.2.2.2
  have hops : tE G x y r 1 s t ∧ (∃ b, b < G 0 1 ∧ s.1 (x + 21) r = nI b ∧ t.1 (y + 23) r = nI b ∧ (G 2 b = 2 ∨ G 2 b = 3) ∧ G 3 b = r) ∧ ((s.1 (x + 22) r = -1 ∧ t.1 (y + 24) r = -1) ∨ (∃ b, b < G 0 1 ∧ s.1 (x + 22) r = nI b ∧ t.1 (y + 24) r = nI b ∧ (G 2 b = 2 ∨ G 2 b = 3) ∧ G 3 b = r)) := by
    rcases hk with hk | hk
    · obtain ⟨q1, ⟨b, q2, q3, q4, q5, q6⟩, q7⟩ := tO_5 hk w6
      refine ⟨q1, ⟨b, q2, q3, q4, Or.inl q5, q6⟩, ?_⟩
      rcases q7 with q7 | ⟨b, q2, q3, q4, q5, q6⟩
      · exact Or.inl q7
      · exact Or.inr ⟨b, q2, q3, q4, Or.inl q5, q6⟩
    · obtain ⟨q1, ⟨b, q2, q3, q4, q5, q6⟩, q7, q8⟩ := tO_6 hk w6
      exact ⟨q1, ⟨b, q2, q3, q4, Or.inr q5, q6⟩, Or.inl ⟨q7, q8⟩⟩
  obtain ⟨hE, ⟨b1, hb1, sb1, tb1, g1, g1'⟩, hel⟩ := hops
  obtain ⟨s2, t2, o1, o2, o3⟩ := work_1 hb.1 h h69 hE
  have h2 := aH_sc o1 o2 h
  have t11 : t2.2.2 1132 11 = some y := by rw [o2.1]; exact r11
  have e20 : s2.1 (x + 19 + 1) r = 151 ∨ s2.1 (x + 19 + 1) r = 152 := by
    have := (aH_k h2).2.2.2.2.1
    rcases hk with hk | hk
    · left; rw [hk] at this; exact this
    · right; rw [hk] at this; exact this
  have e242 : f242 n (nI i) (nI r) t = yb0 (f254 n (nI i) (nI r) t) fun u1 => some u1 := by
    rcases hk with hk | hk
    · have e15 : t.1 (y + 15) r = 5 := by rw [w4, hk]; rfl
      unfold f242
      rw [r11, grd k12, if_pos zr, nxN (show r < 2 ^ 31 by omega), if_neg (show ¬ _ = (1 : Int32) by rw [e15]; decide), if_neg (show ¬ _ = (2 : Int32) by rw [e15]; decide), if_neg (show ¬ _ = (3 : Int32) by rw [e15]; decide), if_neg (show ¬ _ = (4 : Int32) by rw [e15]; decide), if_pos e15]
      rfl
    · have e15 : t.1 (y + 15) r = 6 := by rw [w4, hk]; rfl
      unfold f242
      rw [r11, grd k12, if_pos zr, nxN (show r < 2 ^ 31 by omega), if_neg (show ¬ _ = (1 : Int32) by rw [e15]; decide), if_neg (show ¬ _ = (2 : Int32) by rw [e15]; decide), if_neg (show ¬ _ = (3 : Int32) by rw [e15]; decide), if_neg (show ¬ _ = (4 : Int32) by rw [e15]; decide), if_neg (show ¬ _ = (5 : Int32) by rw [e15]; decide), if_pos e15]
      rfl
  have r9' : s2.2.2 1007 9 = some (x + 19) := by rw [o1.1]; exact r9
  rcases o3 with ⟨c1, m1, m2⟩ | ⟨w, w1, w2, c1, m1, m2⟩
  · have e97 : f97 n (1036 + 3 * i) (nI r) s2 = f97_320 n (nI r) (s2.1 (x + 21) r) (s2.1 1033 0) s2 := by
      have e21 : s2.1 (x + 19 + 2) r = s2.1 (x + 21) r := rfl
      rcases e20 with e20 | e20
      · unfold f97
        rw [r9', grd k6, if_pos zr, zlet, if_pos z0_64, zlet, grd k6, if_pos zr, nxN (show r < 2 ^ 31 by omega), x0_n, if_neg (show ¬ _ = (1 : Int32) by rw [e20]; decide), if_neg (show ¬ _ = (91 : Int32) by rw [e20]; decide), if_neg (show ¬ _ = (149 : Int32) by rw [e20]; decide), if_neg (show ¬ _ = (150 : Int32) by rw [e20]; decide), if_pos e20, e21]
      · unfold f97
        rw [r9', grd k6, if_pos zr, zlet, if_pos z0_64, zlet, grd k6, if_pos zr, nxN (show r < 2 ^ 31 by omega), x0_n, if_neg (show ¬ _ = (1 : Int32) by rw [e20]; decide), if_neg (show ¬ _ = (91 : Int32) by rw [e20]; decide), if_neg (show ¬ _ = (149 : Int32) by rw [e20]; decide), if_neg (show ¬ _ = (150 : Int32) by rw [e20]; decide), if_neg (show ¬ _ = (151 : Int32) by rw [e20]; decide), if_pos e20, e21]
    have s21 : s2.1 (x + 21) r = s.1 (x + 21) r := by rw [scC_a o1 (by omega) (by omega) (by omega) (by omega)]
    have s22 : s2.1 (x + 22) r = s.1 (x + 22) r := by rw [scC_a o1 (by omega) (by omega) (by omega) (by omega)]
    have t23 : t2.1 (y + 23) r = t.1 (y + 23) r := by rw [scM_a o2 (by omega) (by omega) (by omega) (by omega)]
    have t24 : t2.1 (y + 24) r = t.1 (y + 24) r := by rw [scM_a o2 (by omega) (by omega) (by omega) (by omega)]
    -- a block begins
    have go : ∀ b, b < G 0 1 → (G 2 b = 2 ∨ G 2 b = 3) → G 3 b = r → f97 n (1036 + 3 * i) (nI r) s2 = f97_339 n (nI b) s2 → f254 n (nI i) (nI r) t = f254_50 n (nI i) (nI b) t2 → pR G B C x y (cP n i r s) (mP n i r t) := by
      intro b q1 q2 q3 q4 q5
      have em : ¬ nI b = -1 := fun q => (neqM (show b < 2 ^ 31 by omega)).mp q
      have h17 : aH G F W B C x y i D r (sI s2 1007 17 (nI b)) t2 := aH_sc (show scC s2 (sI s2 1007 17 (nI b)) from ⟨rfl, fun a k _ _ _ _ => hIx (by omega)⟩) scM_rf h2
      obtain ⟨s3, t3, F2, W2, C2, a1, a2, a3, a4, -, a6, -⟩ := openA_ok (n := n) hb.1 (by have := hb.2.1; omega) h17.1 h17.2.1 h17.2.2.1 h17.2.2.2.1 q1 q2 q3
      refine ⟨s3, t3, F2, W2, B, C2, ?_, ?_, a3, by omega, by omega⟩
      · unfold cP
        rw [c1, gy1, if_pos rfl, q4]
        simp only [f97_339, zlet, hIe, em, ↓reduceIte, gy1, f89_41, show ¬ (0 : Int32) < -2 by decide, show ¬ (-2 : Int32) = 0 by decide, a1, gy0]
      · unfold mP
        rw [e242, q5]
        unfold f254_50
        rw [if_neg em, a2, gy0, gy0, a6.2.2.2.2.2.2.2, m1, if_pos rfl]
    by_cases v0 : s2.1 1033 0 = 0
    · have f254e : f254 n (nI i) (nI r) t = f254_50 n (nI i) (t.1 (y + 24) r) t2 := by
        simp (disch := omega) only [f254, ↓reduceIte, r11, grd k12, nLmul, z8, nxN, m2, gy1, m1, v0, t11, zr, t24]
      rcases hel with ⟨q1, q2⟩ | ⟨b, q1, q2, q3, q4, q5⟩
      · have h17 : aH G F W B C x y i D r (sI s2 1007 17 (-1)) t2 := aH_sc (show scC s2 (sI s2 1007 17 (-1)) from ⟨rfl, fun a k _ _ _ _ => hIx (by omega)⟩) scM_rf h2
        refine on_2 (by omega) hb h17 m1 c1 ?_ ?_
        · have e22 : s2.1 (x + 19 + 3) r = -1 := by rw [← q1, ← s22]
          rw [e97]
          simp (disch := omega) only [f97_320, f97_339, zlet, v0, ↓reduceIte, r9', grd k6, zr, nxN, e22, hIe]
        · rw [e242, f254e, q2]
          unfold f254_50
          rw [if_pos rfl]
          cases f237 n (nI i) t2 <;> rfl
      · refine go b q1 q4 q5 ?_ (by rw [f254e, q3])
        have e22 : s2.1 (x + 19 + 3) r = nI b := by rw [← q2, ← s22]
        rw [e97]
        simp (disch := omega) only [f97_320, v0, ↓reduceIte, r9', grd k6, zr, nxN, e22]
    · refine go b1 hb1 g1 g1' ?_ ?_
      · rw [e97, s21, sb1]
        unfold f97_320
        rw [if_neg v0]
      · simp (disch := omega) only [f254, ↓reduceIte, r11, grd k12, nLmul, z8, nxN, m2, gy1, m1, v0, t11, zr, t23, tb1]
  · have nz : ¬ nI w = 0 := fun q => by have := (neq0 (show w < 2 ^ 31 by omega)).mp q; omega
    refine sig_1 hb h o1 o2 ⟨w1, w2⟩ m1 c1 ?_
    rw [e242]
    simp (disch := omega) only [f254, ↓reduceIte, r11, grd k12, nLmul, z8, nxN, m2, gy1, m1, nz, gy0]
theorem act_22 (hb : bR B C n) (h : aH G F W B C x y i D r s t) (h69 : t.1 1132 69 = 0) (hk : G 10 r = 22) : pR G B C x y (cP n i r s) (mP n i r t) := by
  have hr := aH_r h
  obtain ⟨hxx, hyy, r9, r11, w3, w4, w6, zr, z8, hi⟩ := aH_k h
  obtain ⟨k9, k6, k0⟩ := gck9 hxx
  have k12 := gck12 hyy
  have e15 : t.1 (y + 15) r = 22 := by rw [w4, hk]; rfl
  have hE := tO_22 hk w6
  obtain ⟨s2, t2, o1, o2, o3⟩ := work_1 hb.1 h h69 hE
  have h2 := aH_sc o1 o2 h
  have r9' : s2.2.2 1007 9 = some (x + 19) := by rw [o1.1]; exact r9
  have e20 : s2.1 (x + 19 + 1) r = 158 := by
    have : s2.1 (x + 20) r = nI 158 := zk_lit hk rfl (aH_k h2).2.2.2.2.1
    exact this
  have e242 : f242 n (nI i) (nI r) t = yb0 (f260 n (nI i) (nI r) t) fun u1 => some u1 := by
    unfold f242
    rw [r11, grd k12, if_pos zr, nxN (show r < 2 ^ 31 by omega), if_neg (show ¬ _ = (1 : Int32) by rw [e15]; decide), if_neg (show ¬ _ = (2 : Int32) by rw [e15]; decide), if_neg (show ¬ _ = (3 : Int32) by rw [e15]; decide), if_neg (show ¬ _ = (4 : Int32) by rw [e15]; decide), if_neg (show ¬ _ = (5 : Int32) by rw [e15]; decide), if_neg (show ¬ _ = (6 : Int32) by rw [e15]; decide), if_neg (show ¬ _ = (7 : Int32) by rw [e15]; decide), if_neg (show ¬ _ = (8 : Int32) by rw [e15]; decide), if_neg (show ¬ _ = (9 : Int32) by rw [e15]; decide), if_neg (show ¬ _ = (10 : Int32) by rw [e15]; decide), if_neg (show ¬ _ = (11 : Int32) by rw [e15]; decide), if_neg (show ¬ _ = (12 : Int32) by rw [e15]; decide), if_neg (show ¬ _ = (13 : Int32) by rw [e15]; decide), if_neg (show ¬ _ = (14 : Int32) by rw [e15]; decide), if_neg (show ¬ _ = (15 : Int32) by rw [e15]; decide), if_pos e15]
    rfl
  have key : ∀ w, 1 ≤ w ∧ w < 20 → f97 n (1036 + 3 * i) (nI r) s2 = some (nI w, s2) → f260 n (nI i) (nI r) t = f260_54 n (nI w) t2 → f90 n (1036 + 3 * i) (nI r) s = some (0, s2) → t2.1 1132 69 = 0 → pR G B C x y (cP n i r s) (mP n i r t) := by
    intro w hw q1 q2 c1 m1
    have h3 : aH G F W B C x y i D r s2 (sI t2 1132 69 (nI w)) := aH_sc scC_rf scM_69 h2
    refine sig_2 hb h3 hw hIe c1 q1 ?_
    rw [e242, q2]
    unfold f260_54
    rw [m_sig m1]
    rfl
  rcases o3 with ⟨c1, m1, m2⟩ | ⟨w, w1, w2, c1, m1, m2⟩
  · have e97 : f97 n (1036 + 3 * i) (nI r) s2 = (if s2.1 1033 0 < 1 then f97_313 n s2 else if 19 < s2.1 1033 0 then f97_313 n s2 else some (s2.1 1033 0, s2)) := by
      unfold f97
      rw [r9', grd k6, if_pos zr, zlet, if_pos z0_64, zlet, grd k6, if_pos zr, nxN (show r < 2 ^ 31 by omega), x0_n, if_neg (show ¬ _ = (1 : Int32) by rw [e20]; decide), if_neg (show ¬ _ = (91 : Int32) by rw [e20]; decide), if_neg (show ¬ _ = (149 : Int32) by rw [e20]; decide), if_neg (show ¬ _ = (150 : Int32) by rw [e20]; decide), if_neg (show ¬ _ = (151 : Int32) by rw [e20]; decide), if_neg (show ¬ _ = (152 : Int32) by rw [e20]; decide), if_neg (show ¬ _ = (154 : Int32) by rw [e20]; decide), if_neg (show ¬ _ = (155 : Int32) by rw [e20]; decide), if_neg (show ¬ _ = (156 : Int32) by rw [e20]; decide), if_neg (show ¬ _ = (157 : Int32) by rw [e20]; decide), if_pos e20]
    have e260 : f260 n (nI i) (nI r) t = (if s2.1 1033 0 < 1 then f260_48 n t2 else if 19 < s2.1 1033 0 then f260_48 n t2 else f260_54 n (s2.1 1033 0) t2) := by
      unfold f260
      rw [r11, grd k12, if_pos zr, zlet, nxN (show r < 2 ^ 31 by omega), if_pos e15, grd k12, nLmul, if_pos z8, nxN (show 4 * r < 2 ^ 31 by omega), m2, gy1]
    by_cases q1 : s2.1 1033 0 < 1
    · rw [if_pos q1] at e97 e260
      exact key 5 (by decide) e97 e260 c1 m1
    · by_cases q2 : 19 < s2.1 1033 0
      · rw [if_neg q1, if_pos q2] at e97 e260
        exact key 5 (by decide) e97 e260 c1 m1
      · rw [if_neg q1, if_neg q2] at e97 e260
        have q0 : ¬ s2.1 1033 0 < 0 := fun q => q1 (Int32.lt_trans q (by decide))
        obtain ⟨v, hv, ev⟩ := nI_of q0
        rw [ev] at q1 q2 e97 e260
        have l1 : ¬ v < 1 := fun q => q1 ((nltN (b := 1) hv (by decide)).mpr q)
        have l2 : ¬ 19 < v := fun q => q2 ((nltN (a := 19) (by decide) hv).mpr q)
        exact key v (by omega) e97 e260 c1 m1
  · have nz : ¬ nI w = 0 := fun q => by have := (neq0 (show w < 2 ^ 31 by omega)).mp q; omega
    refine sig_1 hb h o1 o2 ⟨w1, w2⟩ m1 c1 ?_
    rw [e242]
    have e46 : f246 n 5 t2 = some t2 := by
      unfold f246
      rw [if_neg (by rw [m1]; exact nz)]
      show some (sI t2 1132 69 (t2.1 1132 69)) = some t2
      rw [show sI t2 1132 69 (t2.1 1132 69) = t2 from hsI_id rfl]
    unfold f260
    rw [r11, grd k12, if_pos zr, zlet, nxN (show r < 2 ^ 31 by omega), if_pos e15, grd k12, nLmul, if_pos z8, nxN (show 4 * r < 2 ^ 31 by omega), m2, gy1, if_pos (show (0 : Int32) < 1 by decide)]
    unfold f260_48 f260_54
    rw [e46]
    rfl
end ZAD
