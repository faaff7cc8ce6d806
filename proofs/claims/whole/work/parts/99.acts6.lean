/-! the acts on tasks: start and go now, ends, hold, prior, prevent -/
section ZAT
variable {G W W2 : Nat → Nat → Nat} {F F2 : Nat → Nat → Nat → Nat} {B C B2 C2 x y n i D r o v u : Nat} {s t s2 t2 : zσ}
theorem gyS {β : Type} {a : Option β} : (yb0 a fun u => some u) = a := by cases a <;> rfl
theorem gyT {α β : Type} {a : Option (α × β)} : (yb1 a fun v u => some (v, u)) = a := by
  cases a with
  | none => rfl
  | some q => rfl
theorem aH_run (h : aH G F W B C x y i D r s t) : RUN G (Ft F i D r) W B C x y s t := CL_done h.1 h.2.1 h.2.2.1 h.2.2.2.1 h.2.2.2.2
/-- the task is where it was -/
theorem aH_back (h : aH G F W B C x y i D r s t) (h2 : RUN G F2 W2 B2 C2 x y s2 t2) (e0 : ¬ (s2.1 (1036 + 3 * i) 3 = 0 ∨ s2.1 (1036 + 3 * i) 3 = 3 ∨ s2.1 (1036 + 3 * i) 3 = 4)) (e1 : t2.1 1235 i = t.1 1235 i) (e2 : t2.1 1237 (140 * i + (D - 1)) = t.1 1237 (140 * i + (D - 1))) : aH G F2 W2 B2 C2 x y i D r s2 t2 := by
  have hi := CL_i h.1
  have hr := aH_r h
  obtain ⟨c1, c2, c3, c4, c5⟩ := CL_of h2 hi e0
  have n2 := h.1.1.2.1.1.2.2.1.2.2.1
  have hD : F2 i 3 0 = D := by
    obtain ⟨-, -, -, -, -, -, -, q1, -, q3, -⟩ := id c1
    obtain ⟨-, -, -, -, -, -, -, p1, -, p3, -⟩ := id h.1
    exact (neqN (by omega) (by omega)).mp (q1.symm.trans (e1.trans p1))
  rw [hD] at c1 c2 c3 c4 c5
  have hr2 : F2 i 1 (D - 1) = r := (neqN (by omega) (by omega)).mp (c4.symm.trans (e2.trans h.2.2.2.1))
  rw [hr2] at c2 c3 c4 c5
  exact ⟨c1, c2, c3, c4, c5⟩
/-- after something that was done to task o -/
theorem aH_op (h : aH G F W B C x y i D r s t) (h2 : RUN G F2 W2 B2 C2 x y s2 t2) (ho : o < 8) (o1 : oC o s s2) (o2 : oM o t t2) (e : o = i → ¬ (s2.1 (1036 + 3 * i) 3 = 0 ∨ s2.1 (1036 + 3 * i) 3 = 3 ∨ s2.1 (1036 + 3 * i) 3 = 4) ∧ t2.1 1235 = t.1 1235 ∧ t2.1 1237 = t.1 1237) : aH G F2 W2 B2 C2 x y i D r s2 t2 := by
  have hi := CL_i h.1
  by_cases q : o = i
  · obtain ⟨e0, e1, e2⟩ := e q
    exact aH_back h h2 e0 (by rw [e1]) (by rw [e2])
  · obtain ⟨-, -, -, -, -, -, c3, -, -, c6, -⟩ := id h.1
    exact aH_back h h2 (by rw [(oC_j ho hi (fun w => q w.symm) o1).1]; exact c3) (o2.2.2.2.1 1235 i (by decide) (by decide) (fun w => q w.symm)) (o2.2.2.2.2.1 1237 i (D - 1) (by decide) (by decide) (fun w => q w.symm) (by omega))
/-- both go onward, after a change of task and clock -/
theorem on_3 {s1 : zσ} {C1 : Nat} (hC1 : C1 ≤ C + 1) (hb : bR B C n) (hC : C < 799999999) (h : aH G F2 W2 B C1 x y i D r s2 t2) (h69 : t2.1 1132 69 = 0) (hc : f90 n (1036 + 3 * i) (nI r) s = some (0, s1)) (hc2 : f97 n (1036 + 3 * i) (nI r) s1 = some (0, s2)) (hm : f242 n (nI i) (nI r) t = f237 n (nI i) t2) : pR G B C x y (cP n i r s) (mP n i r t) := by
  obtain ⟨s3, t3, F3, W3, C3, a1, a2, a3, a4, a5⟩ := end_on (n := n) (B := B) hb.1 (by omega) h h69
  refine ⟨s3, t3, F3, W3, B, C3, ?_, ?_, a4, by omega, by omega⟩
  · unfold cP
    rw [hc, gy1, if_pos rfl, hc2, gy1, a1]
  · unfold mP
    rw [hm, a2, gy0, if_pos a3]
theorem c_123 (hxx : x = 1060 ∨ x = 1096) (r9' : s.2.2 1007 9 = some (x + 19)) (zr : zin? (nI r) 200 = true) (hr : r < 200) (e21 : s.1 (x + 19 + 2) r = nI v) (hv : v < 8) (rt : s.2.2 1008 v = some (1036 + 3 * v)) : f123 n (1036 + 3 * i) (nI r) s = f123_36 n (1036 + 3 * i) (nI r) (nI v) (s.1 (x + 19 + 3) r) (1036 + 3 * v) s := by
  obtain ⟨k9, k6, k0⟩ := gck9 hxx
  have zv : zin? (nI v) 8 = true := (zinN (by omega)).mpr hv
  unfold f123
  rw [r9', grd k6, if_pos zr, zlet, grd k6, if_pos zr, zlet, nxN (show r < 2 ^ 31 by omega), e21, if_neg (fun q => (neqM (show v < 2 ^ 31 by omega)).mp q), if_pos zv, nxN (show v < 2 ^ 31 by omega), rt, grd (gck8 hv)]
theorem m_263 {K : Int32} (hyy : y = 1134 ∨ y = 1170) (r11 : t.2.2 1132 11 = some y) (zr : zin? (nI r) 200 = true) (hr : r < 200) (e15 : t.1 (y + 15) r = K) (e19 : t.1 (y + 19) r = nI 0) (e17 : t.1 (y + 17) r = nI u) (hu : u < 1400) (e33 : t.1 (y + 33) u = nI v) : f263 n (nI i) (nI r) t = f263_63 n (nI i) (nI r) K (nI v) t := by
  have k12 := gck12 hyy
  have z14 : zin? (nI u) 1400 = true := (zinN (by omega)).mpr hu
  unfold f263
  rw [r11, grd k12, if_pos zr, zlet, grd k12, if_pos zr, nxN (show r < 2 ^ 31 by omega), e19, if_pos (show nI 0 = (0 : Int32) from rfl), grd k12, if_pos zr, e17, if_neg (fun q => (neqM (show u < 2 ^ 31 by omega)).mp q), grd k12, grd k12, if_pos zr, e17, if_pos z14, nxN (show u < 2 ^ 31 by omega), e33, e15]
theorem m_314 (h69 : t.1 1132 69 = 0) : f263_314 n (nI i) t = f237 n (nI i) t := by
  unfold f263_314
  rw [if_pos h69, gyS]
theorem m_314w {w : Nat} (hw : 1 ≤ w ∧ w < 20) (h69 : t.1 1132 69 = nI w) : f263_314 n (nI i) t = some t ∧ f263_273 n (nI i) (nI v) (nI u) t = some t ∧ f263_250 n (nI i) (nI v) (nI u) t = some t := by
  have nz : ¬ t.1 1132 69 = 0 := fun q => by rw [h69] at q; have := (neq0 (show w < 2 ^ 31 by omega)).mp q; omega
  have e1 : f263_314 n (nI i) t = some t := by
    unfold f263_314
    rw [if_neg nz]
  refine ⟨e1, ?_, ?_⟩
  · unfold f263_273 f263_289
    rw [if_neg nz, e1]
  · unfold f263_250 f263_273 f263_289
    rw [if_neg nz, if_neg nz, e1]
theorem m_250w {w : Nat} {a b : Int32} (hw : 1 ≤ w ∧ w < 20) (h69 : t.1 1132 69 = nI w) : f263_273 n (nI i) a b t = some t ∧ f263_250 n (nI i) a b t = some t := by
  have nz : ¬ t.1 1132 69 = 0 := fun q => by rw [h69] at q; have := (neq0 (show w < 2 ^ 31 by omega)).mp q; omega
  have e1 := (m_314w (n := n) (i := i) (v := 0) (u := 0) hw h69).1
  refine ⟨?_, ?_⟩
  · unfold f263_273 f263_289
    rw [if_neg nz, e1]
  · unfold f263_250 f263_273 f263_289
    rw [if_neg nz, if_neg nz, e1]
theorem act_19 (hb : bR B C n) (hC : C < 799999999) (h : aH G F W B C x y i D r s t) (h69 : t.1 1132 69 = 0) (hk : G 10 r = 19) : pR G B C x y (cP n i r s) (mP n i r t) := by
  have hr := aH_r h
  obtain ⟨hxx, hyy, r9, r11, w3, w4, w6, zr, z8, hi⟩ := aH_k h
  obtain ⟨k9, k6, k0⟩ := gck9 hxx
  have k12 := gck12 hyy
  have e15 : t.1 (y + 15) r = 19 := by rw [w4, hk]; rfl
  obtain ⟨e19, hA, hE⟩ := tO_19 hk w6
  have c1 := work_0 hb.1 h hE
  have h2 : aH G F W B C x y i D r (sI s 1007 16 0) t := aH_sc scC_160 scM_rf h
  generalize hs2 : sI s 1007 16 0 = s2 at c1 h2
  have o1 : scC s s2 := by rw [← hs2]; exact scC_160
  have r9' : s2.2.2 1007 9 = some (x + 19) := by rw [o1.1]; exact r9
  have e20 : s2.1 (x + 19 + 1) r = 169 := by
    have : s2.1 (x + 20) r = nI 169 := zk_lit hk rfl (aH_k h2).2.2.2.2.1
    exact this
  have e242 : f242 n (nI i) (nI r) t = yb0 (f263 n (nI i) (nI r) t) fun u1 => some u1 := by
    unfold f242
    rw [r11, grd k12, if_pos zr, nxN (show r < 2 ^ 31 by omega), if_neg (show ¬ _ = (1 : Int32) by rw [e15]; decide), if_neg (show ¬ _ = (2 : Int32) by rw [e15]; decide), if_neg (show ¬ _ = (3 : Int32) by rw [e15]; decide), if_neg (show ¬ _ = (4 : Int32) by rw [e15]; decide), if_neg (show ¬ _ = (5 : Int32) by rw [e15]; decide), if_neg (show ¬ _ = (6 : Int32) by rw [e15]; decide), if_neg (show ¬ _ = (7 : Int32) by rw [e15]; decide), if_neg (show ¬ _ = (8 : Int32) by rw [e15]; decide), if_neg (show ¬ _ = (9 : Int32) by rw [e15]; decide), if_neg (show ¬ _ = (10 : Int32) by rw [e15]; decide), if_neg (show ¬ _ = (11 : Int32) by rw [e15]; decide), if_neg (show ¬ _ = (12 : Int32) by rw [e15]; decide), if_neg (show ¬ _ = (13 : Int32) by rw [e15]; decide), if_neg (show ¬ _ = (14 : Int32) by rw [e15]; decide), if_neg (show ¬ _ = (15 : Int32) by rw [e15]; decide), if_neg (show ¬ _ = (22 : Int32) by rw [e15]; decide), if_neg (show ¬ _ = (23 : Int32) by rw [e15]; decide), if_neg (show ¬ _ = (24 : Int32) by rw [e15]; decide), if_neg (show ¬ _ = (25 : Int32) by rw [e15]; decide), if_neg (show ¬ _ = (26 : Int32) by rw [e15]; decide), if_neg (show ¬ _ = (27 : Int32) by rw [e15]; decide), if_neg (show ¬ _ = (28 : Int32) by rw [e15]; decide)]
    rfl
  obtain ⟨u, v, hu0, hv, e17, e33, e21⟩ := hA
  have h88 := (h.1.1.2.1.1.1 8 (by decide)).2.2
  have hv8 : v < 8 := by omega
  have zv : zin? (nI v) 8 = true := (zinN (by omega)).mpr hv8
  have nv := nxN (show v < 2 ^ 31 by omega)
  have nr := nxN (show r < 2 ^ 31 by omega)
  have e21' : s2.1 (x + 19 + 2) r = nI v := by
    have : s2.1 (x + 21) r = s.1 (x + 21) r := by rw [scC_a o1 (by omega) (by omega) (by omega) (by omega)]
    rw [← e21]
    exact this
  have hR := aH_run h2
  have rt := hR.1.2.2.2.2.2.2 v hv8
  obtain ⟨ta, tt1, tf⟩ := hR.2.2.2.2.1 v hv8 (by omega)
  obtain ⟨a, k, b1, b2, b3, -⟩ := id tt1
  have a31 : a < 2 ^ 31 := Nat.lt_of_le_of_lt b1 (by decide)
  have e97 : f97 n (1036 + 3 * i) (nI r) s2 = f123_36 n (1036 + 3 * i) (nI r) (nI v) (s2.1 (x + 19 + 3) r) (1036 + 3 * v) s2 := by
    unfold f97
    rw [r9', grd k6, if_pos zr, zlet, if_pos z0_64, zlet, grd k6, if_pos zr, nxN (show r < 2 ^ 31 by omega), x0_n, if_neg (show ¬ _ = (1 : Int32) by rw [e20]; decide), if_neg (show ¬ _ = (91 : Int32) by rw [e20]; decide), if_neg (show ¬ _ = (149 : Int32) by rw [e20]; decide), if_neg (show ¬ _ = (150 : Int32) by rw [e20]; decide), if_neg (show ¬ _ = (151 : Int32) by rw [e20]; decide), if_neg (show ¬ _ = (152 : Int32) by rw [e20]; decide), if_neg (show ¬ _ = (154 : Int32) by rw [e20]; decide), if_neg (show ¬ _ = (155 : Int32) by rw [e20]; decide), if_neg (show ¬ _ = (156 : Int32) by rw [e20]; decide), if_neg (show ¬ _ = (157 : Int32) by rw [e20]; decide), if_neg (show ¬ _ = (158 : Int32) by rw [e20]; decide), if_neg (show ¬ _ = (159 : Int32) by rw [e20]; decide), if_neg (show ¬ _ = (160 : Int32) by rw [e20]; decide), if_neg (show ¬ _ = (161 : Int32) by rw [e20]; decide), if_neg (show ¬ _ = (162 : Int32) by rw [e20]; decide), if_neg (show ¬ _ = (163 : Int32) by rw [e20]; decide), if_neg (show ¬ _ = (164 : Int32) by rw [e20]; decide), if_neg (show ¬ _ = (165 : Int32) by rw [e20]; decide), if_neg (show ¬ _ = (166 : Int32) by rw [e20]; decide), if_neg (show ¬ _ = (172 : Int32) by rw [e20]; decide), if_neg (show ¬ _ = (173 : Int32) by rw [e20]; decide), if_neg (show ¬ _ = (174 : Int32) by rw [e20]; decide), gyT, c_123 hxx r9' zr hr e21' hv8 rt]
  have e263 : f242 n (nI i) (nI r) t = f263_63 n (nI i) (nI r) 19 (nI v) t := by
    rw [e242, gyS, m_263 hyy r11 zr hr e15 e19 e17 hu0 e33]
  have m7 : f246 n 7 t = some (sI t 1132 69 (nI 7)) := m_sig (w := 7) h69
  by_cases a13 : a = 1 ∨ a = 3
  · obtain ⟨b, hab, hb1⟩ : ∃ b, ((a = 1 ∧ b = 2) ∨ (a = 3 ∧ b = 4)) ∧ 1 ≤ b := by
      rcases a13 with q | q
      · exact ⟨2, Or.inl ⟨q, rfl⟩, by decide⟩
      · exact ⟨4, Or.inr ⟨q, rfl⟩, by decide⟩
    obtain ⟨c2, c3, c4⟩ := st_ok (a := a) (b := b) hR hv8 b2 (by omega)
    have h3 := aH_op h2 c2 hv8 c3 c4 (fun q => ⟨by
      rw [q, hIe]
      rcases hab with ⟨-, w⟩ | ⟨w0, -⟩
      · rw [w]; decide
      · exact absurd (Or.inr (Or.inl (by rw [← q, b2, w0]; rfl))) h2.1.2.2.2.2.2.2.1, hIo (by decide), hIo (by decide)⟩)
    refine on_3 (Nat.le_succ _) hb hC h3 (by rw [hIo (by decide)]; exact h69) c1 ?_ ?_
    · rw [e97]
      unfold f123_36
      rw [r9', grd k6, if_pos zr, nxN (show r < 2 ^ 31 by omega), if_neg (show ¬ _ = (167 : Int32) by rw [e20]; decide), if_neg (show ¬ _ = (168 : Int32) by rw [e20]; decide), if_pos e20, b2]
      unfold f123_155 f123_171
      rw [b2]
      rcases hab with ⟨q, w⟩ | ⟨q, w⟩ <;> subst q <;> subst w <;> rfl
    · rw [e263]
      unfold f263_63
      rw [if_neg (show ¬ (19 : Int32) = 16 by decide), if_neg (show ¬ (19 : Int32) = 17 by decide), if_neg (show ¬ (19 : Int32) = 18 by decide), if_pos (show (19 : Int32) = 19 from rfl), if_pos zv, nv, b3]
      unfold f263_175 f263_197
      rw [if_pos zv, nv, b3]
      rcases hab with ⟨q, w⟩ | ⟨q, w⟩ <;> subst q <;> subst w
      · rw [if_pos (show nI 1 = (1 : Int32) from rfl), if_pos (show nI 1 = (1 : Int32) from rfl), if_pos zv, zlet]
        refine m_314 ?_
        rw [hIo (by decide)]
        exact h69
      · rw [if_neg (show ¬ nI 3 = (1 : Int32) by decide), if_pos zv, if_pos (show nI 3 = (3 : Int32) from rfl), if_neg (show ¬ nI 3 = (1 : Int32) by decide), if_pos zv, zlet]
        refine m_314 ?_
        rw [hIo (by decide)]
        exact h69
  · have q1 : ¬ nI a = 1 := fun e => a13 (Or.inl ((neqN (b := 1) a31 (by decide)).mp e))
    have q3 : ¬ nI a = 3 := fun e => a13 (Or.inr ((neqN (b := 3) a31 (by decide)).mp e))
    have h3 : aH G F W B C x y i D r s2 (sI t 1132 69 (nI 7)) := aH_sc scC_rf scM_69 h2
    refine sig_2 hb h3 (by decide) hIe c1 ?_ ?_
    · rw [e97]
      unfold f123_36
      rw [r9', grd k6, if_pos zr, nxN (show r < 2 ^ 31 by omega), if_neg (show ¬ _ = (167 : Int32) by rw [e20]; decide), if_neg (show ¬ _ = (168 : Int32) by rw [e20]; decide), if_pos e20, b2, if_neg q1, if_neg q3]
      rfl
    · rw [e263]
      unfold f263_63
      rw [if_neg (show ¬ (19 : Int32) = 16 by decide), if_neg (show ¬ (19 : Int32) = 17 by decide), if_neg (show ¬ (19 : Int32) = 18 by decide), if_pos (show (19 : Int32) = 19 from rfl), if_pos zv, nv, b3, if_neg q1, if_pos zv, if_neg q3, m7]
      rfl
theorem act_20 (hb : bR B C n) (hC : C < 799999999) (h : aH G F W B C x y i D r s t) (h69 : t.1 1132 69 = 0) (hk : G 10 r = 20) : pR G B C x y (cP n i r s) (mP n i r t) := by
  have hr := aH_r h
  obtain ⟨hxx, hyy, r9, r11, w3, w4, w6, zr, z8, hi⟩ := aH_k h
  obtain ⟨k9, k6, k0⟩ := gck9 hxx
  have k12 := gck12 hyy
  have e15 : t.1 (y + 15) r = 20 := by rw [w4, hk]; rfl
  obtain ⟨e19, hA, hE⟩ := tO_20 hk w6
  obtain ⟨s2, t2, o1, o2, o3⟩ := work_1 hb.1 h h69 hE
  have h2 := aH_sc o1 o2 h
  have r9' : s2.2.2 1007 9 = some (x + 19) := by rw [o1.1]; exact r9
  have t11 : t2.2.2 1132 11 = some y := by rw [o2.1]; exact r11
  have e20 : s2.1 (x + 19 + 1) r = 170 := by
    have : s2.1 (x + 20) r = nI 170 := zk_lit hk rfl (aH_k h2).2.2.2.2.1
    exact this
  have e242 : f242 n (nI i) (nI r) t = yb0 (f263 n (nI i) (nI r) t) fun u1 => some u1 := by
    unfold f242
    rw [r11, grd k12, if_pos zr, nxN (show r < 2 ^ 31 by omega), if_neg (show ¬ _ = (1 : Int32) by rw [e15]; decide), if_neg (show ¬ _ = (2 : Int32) by rw [e15]; decide), if_neg (show ¬ _ = (3 : Int32) by rw [e15]; decide), if_neg (show ¬ _ = (4 : Int32) by rw [e15]; decide), if_neg (show ¬ _ = (5 : Int32) by rw [e15]; decide), if_neg (show ¬ _ = (6 : Int32) by rw [e15]; decide), if_neg (show ¬ _ = (7 : Int32) by rw [e15]; decide), if_neg (show ¬ _ = (8 : Int32) by rw [e15]; decide), if_neg (show ¬ _ = (9 : Int32) by rw [e15]; decide), if_neg (show ¬ _ = (10 : Int32) by rw [e15]; decide), if_neg (show ¬ _ = (11 : Int32) by rw [e15]; decide), if_neg (show ¬ _ = (12 : Int32) by rw [e15]; decide), if_neg (show ¬ _ = (13 : Int32) by rw [e15]; decide), if_neg (show ¬ _ = (14 : Int32) by rw [e15]; decide), if_neg (show ¬ _ = (15 : Int32) by rw [e15]; decide), if_neg (show ¬ _ = (22 : Int32) by rw [e15]; decide), if_neg (show ¬ _ = (23 : Int32) by rw [e15]; decide), if_neg (show ¬ _ = (24 : Int32) by rw [e15]; decide), if_neg (show ¬ _ = (25 : Int32) by rw [e15]; decide), if_neg (show ¬ _ = (26 : Int32) by rw [e15]; decide), if_neg (show ¬ _ = (27 : Int32) by rw [e15]; decide), if_neg (show ¬ _ = (28 : Int32) by rw [e15]; decide)]
    rfl
  obtain ⟨u, v, hu0, hv, e17, e33, e21⟩ := hA
  have h88 := (h.1.1.2.1.1.1 8 (by decide)).2.2
  have hv8 : v < 8 := by omega
  have zv : zin? (nI v) 8 = true := (zinN (by omega)).mpr hv8
  have nv := nxN (show v < 2 ^ 31 by omega)
  have nr := nxN (show r < 2 ^ 31 by omega)
  have e21' : s2.1 (x + 19 + 2) r = nI v := by
    have : s2.1 (x + 21) r = s.1 (x + 21) r := by rw [scC_a o1 (by omega) (by omega) (by omega) (by omega)]
    rw [← e21]
    exact this
  have hR := aH_run h2
  have rt := hR.1.2.2.2.2.2.2 v hv8
  obtain ⟨ta, tt1, tf⟩ := hR.2.2.2.2.1 v hv8 (by omega)
  obtain ⟨a, k, b1, b2, b3, -⟩ := id tt1
  have a31 : a < 2 ^ 31 := Nat.lt_of_le_of_lt b1 (by decide)
  have e97 : f97 n (1036 + 3 * i) (nI r) s2 = f123_36 n (1036 + 3 * i) (nI r) (nI v) (s2.1 (x + 19 + 3) r) (1036 + 3 * v) s2 := by
    unfold f97
    rw [r9', grd k6, if_pos zr, zlet, if_pos z0_64, zlet, grd k6, if_pos zr, nxN (show r < 2 ^ 31 by omega), x0_n, if_neg (show ¬ _ = (1 : Int32) by rw [e20]; decide), if_neg (show ¬ _ = (91 : Int32) by rw [e20]; decide), if_neg (show ¬ _ = (149 : Int32) by rw [e20]; decide), if_neg (show ¬ _ = (150 : Int32) by rw [e20]; decide), if_neg (show ¬ _ = (151 : Int32) by rw [e20]; decide), if_neg (show ¬ _ = (152 : Int32) by rw [e20]; decide), if_neg (show ¬ _ = (154 : Int32) by rw [e20]; decide), if_neg (show ¬ _ = (155 : Int32) by rw [e20]; decide), if_neg (show ¬ _ = (156 : Int32) by rw [e20]; decide), if_neg (show ¬ _ = (157 : Int32) by rw [e20]; decide), if_neg (show ¬ _ = (158 : Int32) by rw [e20]; decide), if_neg (show ¬ _ = (159 : Int32) by rw [e20]; decide), if_neg (show ¬ _ = (160 : Int32) by rw [e20]; decide), if_neg (show ¬ _ = (161 : Int32) by rw [e20]; decide), if_neg (show ¬ _ = (162 : Int32) by rw [e20]; decide), if_neg (show ¬ _ = (163 : Int32) by rw [e20]; decide), if_neg (show ¬ _ = (164 : Int32) by rw [e20]; decide), if_neg (show ¬ _ = (165 : Int32) by rw [e20]; decide), if_neg (show ¬ _ = (166 : Int32) by rw [e20]; decide), if_neg (show ¬ _ = (172 : Int32) by rw [e20]; decide), if_neg (show ¬ _ = (173 : Int32) by rw [e20]; decide), if_neg (show ¬ _ = (174 : Int32) by rw [e20]; decide), gyT, c_123 hxx r9' zr hr e21' hv8 rt]
  have e263 : f242 n (nI i) (nI r) t = f263_63 n (nI i) (nI r) 20 (nI v) t := by
    rw [e242, gyS, m_263 hyy r11 zr hr e15 e19 e17 hu0 e33]
  have e63 : ∀ v5, f243 n (nI i) (t.1 (y + 22) (4 * r)) t = some (v5, t2) → f263_63 n (nI i) (nI r) 20 (nI v) t = (if (t2.1 1132 69) = (0 : Int32) then if v5 < (1 : Int32) then f263_245 n (nI i) (nI v) v5 t2 else if (9 : Int32) < v5 then f263_245 n (nI i) (nI v) v5 t2 else f263_250 n (nI i) (nI v) v5 t2 else f263_250 n (nI i) (nI v) v5 t2) := by
    intro v5 hv5
    unfold f263_63
    rw [if_neg (show ¬ (20 : Int32) = 16 by decide), if_neg (show ¬ (20 : Int32) = 17 by decide), if_neg (show ¬ (20 : Int32) = 18 by decide), if_neg (show ¬ (20 : Int32) = 19 by decide), if_pos (show (20 : Int32) = 20 from rfl), r11, grd k12, nLmul, if_pos z8, nxN (show 4 * r < 2 ^ 31 by omega), hv5, gy1]
  rcases o3 with ⟨c1, m1, m2⟩ | ⟨w, w1, w2, c1, m1, m2⟩
  · have e36 : f97 n (1036 + 3 * i) (nI r) s2 = (if s2.1 1033 0 < 1 then some (5, s2) else if 9 < s2.1 1033 0 then some (5, s2) else if s2.1 (1036 + 3 * v) 3 = 0 then some (7, s2) else some (0, sI s2 (1036 + 3 * v) 4 (s2.1 1033 0))) := by
      rw [e97]
      unfold f123_36
      rw [r9', grd k6, if_pos zr, nxN (show r < 2 ^ 31 by omega), if_neg (show ¬ _ = (167 : Int32) by rw [e20]; decide), if_neg (show ¬ _ = (168 : Int32) by rw [e20]; decide), if_neg (show ¬ _ = (169 : Int32) by rw [e20]; decide), if_pos e20, if_pos z0_64, if_pos z0_64, if_pos z0_64, x0_n]
      rfl
    have e63' := e63 _ m2
    rw [if_pos m1] at e63'
    have m5 : f246 n 5 t2 = some (sI t2 1132 69 (nI 5)) := m_sig (w := 5) m1
    have m7 : f246 n 7 t2 = some (sI t2 1132 69 (nI 7)) := m_sig (w := 7) m1
    have sg : ∀ w, 1 ≤ w ∧ w < 20 → f97 n (1036 + 3 * i) (nI r) s2 = some (nI w, s2) → f242 n (nI i) (nI r) t = some (sI t2 1132 69 (nI w)) → pR G B C x y (cP n i r s) (mP n i r t) := by
      intro w hw q1 q2
      exact sig_2 hb (aH_sc scC_rf scM_69 h2) hw hIe c1 q1 q2
    have m45 : ∀ v5, f263_245 n (nI i) (nI v) v5 t2 = some (sI t2 1132 69 (nI 5)) := by
      intro v5
      unfold f263_245
      rw [m5, gy0]
      exact (m_250w (w := 5) (by decide) hIe).2
    by_cases q1 : s2.1 1033 0 < 1
    · rw [if_pos q1] at e36 e63'
      exact sg 5 (by decide) e36 (by rw [e263, e63', m45])
    · by_cases q2 : 9 < s2.1 1033 0
      · rw [if_neg q1, if_pos q2] at e36 e63'
        exact sg 5 (by decide) e36 (by rw [e263, e63', m45])
      · rw [if_neg q1, if_neg q2] at e36 e63'
        have m50 : f263_250 n (nI i) (nI v) (s2.1 1033 0) t2 = (if nI a = 0 then yb0 (f246 n 7 t2) fun u1 => f263_273 n (nI i) (nI v) (s2.1 1033 0) u1 else f263_273 n (nI i) (nI v) (s2.1 1033 0) t2) := by
          unfold f263_250
          rw [if_pos m1, if_pos zv, nv, b3]
        rw [b2] at e36
        by_cases a0 : nI a = 0
        · rw [if_pos a0] at e36 m50
          refine sg 7 (by decide) e36 ?_
          rw [e263, e63', m50, m7, gy0]
          exact (m_250w (w := 7) (by decide) hIe).1
        · rw [if_neg a0] at e36 m50
          have q0 : ¬ s2.1 1033 0 < 0 := fun q => q1 (Int32.lt_trans q (by decide))
          obtain ⟨p, hp, ep⟩ := nI_of q0
          rw [ep] at q1 q2 e36 e63' m50
          have l1 : ¬ p < 1 := fun q => q1 ((nltN (b := 1) hp (by decide)).mpr q)
          have l2 : ¬ 9 < p := fun q => q2 ((nltN (a := 9) (by decide) hp).mpr q)
          obtain ⟨c2, c3, c4⟩ := prior_ok (p := p) hR hv8 (by rw [b2]; exact a0) (by omega)
          have h3 := aH_op h2 c2 hv8 c3 c4 (fun q => ⟨by
            rw [q, hIk (by decide)]
            exact h2.1.2.2.2.2.2.2.1, hIo (by decide), hIo (by decide)⟩)
          refine on_3 (Nat.le_succ _) hb hC h3 (by rw [hIo (by decide)]; exact m1) c1 e36 ?_
          rw [e263, e63', m50]
          unfold f263_273 f263_289
          rw [if_pos m1, if_pos zv, nv, zlet]
          refine m_314 ?_
          rw [hIo (by decide)]
          exact m1
  · have nz : ¬ nI w = 0 := fun q => by have := (neq0 (show w < 2 ^ 31 by omega)).mp q; omega
    refine sig_1 hb h o1 o2 ⟨w1, w2⟩ m1 c1 ?_
    rw [e263, e63 _ m2, m1, if_neg nz]
    exact (m_250w ⟨w1, w2⟩ m1).2
theorem act_21 (hb : bR B C n) (h : aH G F W B C x y i D r s t) (h69 : t.1 1132 69 = 0) (hk : G 10 r = 21) : pR G B C x y (cP n i r s) (mP n i r t) := by
  have hr := aH_r h
  obtain ⟨hxx, hyy, r9, r11, w3, w4, w6, zr, z8, hi⟩ := aH_k h
  obtain ⟨k9, k6, k0⟩ := gck9 hxx
  have k12 := gck12 hyy
  have e15 : t.1 (y + 15) r = 21 := by rw [w4, hk]; rfl
  obtain ⟨e19, hA, hE⟩ := tO_21 hk w6
  have c1 := work_0 hb.1 h hE
  have h2 : aH G F W B C x y i D r (sI s 1007 16 0) t := aH_sc scC_160 scM_rf h
  generalize hs2 : sI s 1007 16 0 = s2 at c1 h2
  have o1 : scC s s2 := by rw [← hs2]; exact scC_160
  have r9' : s2.2.2 1007 9 = some (x + 19) := by rw [o1.1]; exact r9
  have e20 : s2.1 (x + 19 + 1) r = 171 := by
    have : s2.1 (x + 20) r = nI 171 := zk_lit hk rfl (aH_k h2).2.2.2.2.1
    exact this
  have e242 : f242 n (nI i) (nI r) t = yb0 (f263 n (nI i) (nI r) t) fun u1 => some u1 := by
    unfold f242
    rw [r11, grd k12, if_pos zr, nxN (show r < 2 ^ 31 by omega), if_neg (show ¬ _ = (1 : Int32) by rw [e15]; decide), if_neg (show ¬ _ = (2 : Int32) by rw [e15]; decide), if_neg (show ¬ _ = (3 : Int32) by rw [e15]; decide), if_neg (show ¬ _ = (4 : Int32) by rw [e15]; decide), if_neg (show ¬ _ = (5 : Int32) by rw [e15]; decide), if_neg (show ¬ _ = (6 : Int32) by rw [e15]; decide), if_neg (show ¬ _ = (7 : Int32) by rw [e15]; decide), if_neg (show ¬ _ = (8 : Int32) by rw [e15]; decide), if_neg (show ¬ _ = (9 : Int32) by rw [e15]; decide), if_neg (show ¬ _ = (10 : Int32) by rw [e15]; decide), if_neg (show ¬ _ = (11 : Int32) by rw [e15]; decide), if_neg (show ¬ _ = (12 : Int32) by rw [e15]; decide), if_neg (show ¬ _ = (13 : Int32) by rw [e15]; decide), if_neg (show ¬ _ = (14 : Int32) by rw [e15]; decide), if_neg (show ¬ _ = (15 : Int32) by rw [e15]; decide), if_neg (show ¬ _ = (22 : Int32) by rw [e15]; decide), if_neg (show ¬ _ = (23 : Int32) by rw [e15]; decide), if_neg (show ¬ _ = (24 : Int32) by rw [e15]; decide), if_neg (show ¬ _ = (25 : Int32) by rw [e15]; decide), if_neg (show ¬ _ = (26 : Int32) by rw [e15]; decide), if_neg (show ¬ _ = (27 : Int32) by rw [e15]; decide), if_neg (show ¬ _ = (28 : Int32) by rw [e15]; decide)]
    rfl
  obtain ⟨u, v, hu0, hv, e17, e33, e21⟩ := hA
  have h88 := (h.1.1.2.1.1.1 8 (by decide)).2.2
  have hv8 : v < 8 := by omega
  have zv : zin? (nI v) 8 = true := (zinN (by omega)).mpr hv8
  have nv := nxN (show v < 2 ^ 31 by omega)
  have nr := nxN (show r < 2 ^ 31 by omega)
  have e21' : s2.1 (x + 19 + 2) r = nI v := by
    have : s2.1 (x + 21) r = s.1 (x + 21) r := by rw [scC_a o1 (by omega) (by omega) (by omega) (by omega)]
    rw [← e21]
    exact this
  have hR := aH_run h2
  have rt := hR.1.2.2.2.2.2.2 v hv8
  obtain ⟨ta, tt1, tf⟩ := hR.2.2.2.2.1 v hv8 (by omega)
  obtain ⟨a, k, b1, b2, b3, -⟩ := id tt1
  have a31 : a < 2 ^ 31 := Nat.lt_of_le_of_lt b1 (by decide)
  have e97 : f97 n (1036 + 3 * i) (nI r) s2 = f123_36 n (1036 + 3 * i) (nI r) (nI v) (s2.1 (x + 19 + 3) r) (1036 + 3 * v) s2 := by
    unfold f97
    rw [r9', grd k6, if_pos zr, zlet, if_pos z0_64, zlet, grd k6, if_pos zr, nxN (show r < 2 ^ 31 by omega), x0_n, if_neg (show ¬ _ = (1 : Int32) by rw [e20]; decide), if_neg (show ¬ _ = (91 : Int32) by rw [e20]; decide), if_neg (show ¬ _ = (149 : Int32) by rw [e20]; decide), if_neg (show ¬ _ = (150 : Int32) by rw [e20]; decide), if_neg (show ¬ _ = (151 : Int32) by rw [e20]; decide), if_neg (show ¬ _ = (152 : Int32) by rw [e20]; decide), if_neg (show ¬ _ = (154 : Int32) by rw [e20]; decide), if_neg (show ¬ _ = (155 : Int32) by rw [e20]; decide), if_neg (show ¬ _ = (156 : Int32) by rw [e20]; decide), if_neg (show ¬ _ = (157 : Int32) by rw [e20]; decide), if_neg (show ¬ _ = (158 : Int32) by rw [e20]; decide), if_neg (show ¬ _ = (159 : Int32) by rw [e20]; decide), if_neg (show ¬ _ = (160 : Int32) by rw [e20]; decide), if_neg (show ¬ _ = (161 : Int32) by rw [e20]; decide), if_neg (show ¬ _ = (162 : Int32) by rw [e20]; decide), if_neg (show ¬ _ = (163 : Int32) by rw [e20]; decide), if_neg (show ¬ _ = (164 : Int32) by rw [e20]; decide), if_neg (show ¬ _ = (165 : Int32) by rw [e20]; decide), if_neg (show ¬ _ = (166 : Int32) by rw [e20]; decide), if_neg (show ¬ _ = (172 : Int32) by rw [e20]; decide), if_neg (show ¬ _ = (173 : Int32) by rw [e20]; decide), if_neg (show ¬ _ = (174 : Int32) by rw [e20]; decide), gyT, c_123 hxx r9' zr hr e21' hv8 rt]
  have e263 : f242 n (nI i) (nI r) t = f263_63 n (nI i) (nI r) 21 (nI v) t := by
    rw [e242, gyS, m_263 hyy r11 zr hr e15 e19 e17 hu0 e33]
  have y1 : zin? (nI (2 * v)) 16 = true := (zinN (by omega)).mpr (by omega)
  have y2 : zin? (nI (2 * v + 1)) 16 = true := (zinN (by omega)).mpr (by omega)
  have ny1 := nxN (show 2 * v < 2 ^ 31 by omega)
  have ny2 := nxN (show 2 * v + 1 < 2 ^ 31 by omega)
  obtain ⟨⟨d1, d2, d3, d4, d5, d6, d7, d8, d9, d10, d11⟩, dE⟩ := aH_d h2
  have h3 : aH G F W B C x y i D r (sI (sI s2 1023 (2 * v) (-1)) 1023 (2 * v + 1) (-1)) (sI (sI t 1240 (2 * v) 0) 1240 (2 * v + 1) 0) := by
    refine aH_glob h2 ⟨rfl, fun a ha => by simp (disch := omega) only [hIo]⟩ ⟨rfl, fun a q1 q2 q3 => by simp (disch := omega) only [hIo], by simp (disch := omega) only [hIo, hIk]⟩ ⟨?_, ?_, ?_, ?_, ?_, ?_, ?_, ?_, ?_, ?_, ?_⟩ ?_
    · unfold rA at d1 ⊢; simp (disch := omega) only [hIo, hIk]; exact d1
    · unfold rB at d2 ⊢; simp (disch := omega) only [hIo, hIk]; exact d2
    · unfold rV at d3 ⊢; simp (disch := omega) only [hIo, hIk]; exact d3
    · unfold rW at d4 ⊢; simp (disch := omega) only [hIo, hIk]; exact d4
    · unfold rS at d5 ⊢; simp (disch := omega) only [hIo, hIk]; exact d5
    · unfold rL at d6 ⊢; simp (disch := omega) only [hIo, hIk]; exact d6
    · unfold rI at d7 ⊢; simp (disch := omega) only [hIo, hIk]; exact d7
    · unfold rO at d8 ⊢; simp (disch := omega) only [hIo, hIk]; exact d8
    · unfold rP at d9 ⊢; simp (disch := omega) only [hIo, hIk]; exact d9
    · refine ⟨?_, Nat.le_trans (zNH_le (fun q hq e => ?_)) d10.2.1, d10.2.2⟩
      rotate_left
      · by_cases w2 : q = 2 * v + 1
        · rw [w2]
          exact hIe
        · rw [hIk w2]
          by_cases w1 : q = 2 * v
          · rw [w1]
            exact hIe
          · rw [hIk w1]
            exact e
      intro q hq
      by_cases e : q = 2 * v
      · subst e
        exact Or.inl ⟨by rw [hIk (by omega), hIe], by rw [hIk (by omega), hIe]⟩
      · by_cases e2 : q = 2 * v + 1
        · subst e2
          exact Or.inl ⟨by rw [hIe], by rw [hIe]⟩
        · have := d10.1 q hq
          simp (disch := omega) only [hIk e, hIk e2, hIo]
          exact this
    · unfold rC at d11 ⊢; simp (disch := omega) only [hIo, hIk]; exact d11
    · unfold rE at dE ⊢; simp (disch := omega) only [hIo, hIk]; exact dE
  refine on_2 (by omega) hb h3 (by simp (disch := omega) only [hIo]; exact h69) c1 ?_ ?_
  · rw [e97]
    unfold f123_36
    rw [r9', grd k6, if_pos zr, nxN (show r < 2 ^ 31 by omega), if_neg (show ¬ _ = (167 : Int32) by rw [e20]; decide), if_neg (show ¬ _ = (168 : Int32) by rw [e20]; decide), if_neg (show ¬ _ = (169 : Int32) by rw [e20]; decide), if_neg (show ¬ _ = (170 : Int32) by rw [e20]; decide), if_pos e20, nLmul, if_pos y1, zlet, naddL, if_pos y2, zlet, ny1, ny2]
  · rw [e263]
    unfold f263_63
    rw [if_neg (show ¬ (21 : Int32) = 16 by decide), if_neg (show ¬ (21 : Int32) = 17 by decide), if_neg (show ¬ (21 : Int32) = 18 by decide), if_neg (show ¬ (21 : Int32) = 19 by decide), if_neg (show ¬ (21 : Int32) = 20 by decide), nLmul, if_pos y1, zlet, naddL, if_pos y2, zlet, ny1, ny2]
    refine m_314 ?_
    simp (disch := omega) only [hIo]
    exact h69
end ZAT
