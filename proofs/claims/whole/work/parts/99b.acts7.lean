/-! the acts on tasks: ends, start and go now -/
section ZAU
variable {G W W2 : Nat → Nat → Nat} {F F2 : Nat → Nat → Nat → Nat} {B C B2 C2 x y n i D r o v u : Nat} {s t s2 t2 : zσ}
theorem act_18 (hb : bR B C n) (hC : C < 799999999) (h : aH G F W B C x y i D r s t) (h69 : t.1 1132 69 = 0) (hk : G 10 r = 18) : pR G B C x y (cP n i r s) (mP n i r t) := by
  have hr := aH_r h
  obtain ⟨hxx, hyy, r9, r11, w3, w4, w6, zr, z8, hi⟩ := aH_k h
  obtain ⟨k9, k6, k0⟩ := gck9 hxx
  have k12 := gck12 hyy
  have e15 : t.1 (y + 15) r = 18 := by rw [w4, hk]; rfl
  obtain ⟨e19, hA, hE⟩ := tO_18 hk w6
  have c1 := work_0 hb.1 h hE
  have h2 : aH G F W B C x y i D r (sI s 1007 16 0) t := aH_sc scC_160 scM_rf h
  generalize hs2 : sI s 1007 16 0 = s2 at c1 h2
  have o1 : scC s s2 := by rw [← hs2]; exact scC_160
  have r9' : s2.2.2 1007 9 = some (x + 19) := by rw [o1.1]; exact r9
  have e20 : s2.1 (x + 19 + 1) r = 153 := by
    have : s2.1 (x + 20) r = nI 153 := zk_lit hk rfl (aH_k h2).2.2.2.2.1
    exact this
  have e242 : f242 n (nI i) (nI r) t = yb0 (f263 n (nI i) (nI r) t) fun u1 => some u1 := by
    unfold f242
    rw [r11, grd k12, if_pos zr, nxN (show r < 2 ^ 31 by omega), if_neg (show ¬ _ = (1 : Int32) by rw [e15]; decide), if_neg (show ¬ _ = (2 : Int32) by rw [e15]; decide), if_neg (show ¬ _ = (3 : Int32) by rw [e15]; decide), if_neg (show ¬ _ = (4 : Int32) by rw [e15]; decide), if_neg (show ¬ _ = (5 : Int32) by rw [e15]; decide), if_neg (show ¬ _ = (6 : Int32) by rw [e15]; decide), if_neg (show ¬ _ = (7 : Int32) by rw [e15]; decide), if_neg (show ¬ _ = (8 : Int32) by rw [e15]; decide), if_neg (show ¬ _ = (9 : Int32) by rw [e15]; decide), if_neg (show ¬ _ = (10 : Int32) by rw [e15]; decide), if_neg (show ¬ _ = (11 : Int32) by rw [e15]; decide), if_neg (show ¬ _ = (12 : Int32) by rw [e15]; decide), if_neg (show ¬ _ = (13 : Int32) by rw [e15]; decide), if_neg (show ¬ _ = (14 : Int32) by rw [e15]; decide), if_neg (show ¬ _ = (15 : Int32) by rw [e15]; decide), if_neg (show ¬ _ = (22 : Int32) by rw [e15]; decide), if_neg (show ¬ _ = (23 : Int32) by rw [e15]; decide), if_neg (show ¬ _ = (24 : Int32) by rw [e15]; decide), if_neg (show ¬ _ = (25 : Int32) by rw [e15]; decide), if_neg (show ¬ _ = (26 : Int32) by rw [e15]; decide), if_neg (show ¬ _ = (27 : Int32) by rw [e15]; decide), if_neg (show ¬ _ = (28 : Int32) by rw [e15]; decide)]
    rfl
  have hR := aH_run h2
  have h88 := (h.1.1.2.1.1.1 8 (by decide)).2.2
  have hcl := h2.1
  have hi8 : i < G 6 8 := hcl.2.2.2.2.1
  obtain ⟨v, hv, x3, e97, e263⟩ : ∃ v, v < G 6 8 ∧ ∃ x3, f97 n (1036 + 3 * i) (nI r) s2 = f123_36 n (1036 + 3 * i) (nI r) x3 (s2.1 (x + 19 + 3) r) (1036 + 3 * v) s2 ∧ f242 n (nI i) (nI r) t = f263_63 n (nI i) (nI r) 18 (nI v) t := by
    rcases hA with ⟨e21, e17⟩ | ⟨u, v, hu0, hv, e17, e33, e21⟩
    · refine ⟨i, hi8, -1, ?_, ?_⟩
      · have e21' : s2.1 (x + 19 + 2) r = -1 := by
          have : s2.1 (x + 21) r = s.1 (x + 21) r := by rw [scC_a o1 (by omega) (by omega) (by omega) (by omega)]
          rw [← e21]
          exact this
        unfold f97
        rw [r9', grd k6, if_pos zr, zlet, if_pos z0_64, zlet, grd k6, if_pos zr, nxN (show r < 2 ^ 31 by omega), x0_n, if_neg (show ¬ _ = (1 : Int32) by rw [e20]; decide), if_neg (show ¬ _ = (91 : Int32) by rw [e20]; decide), if_neg (show ¬ _ = (149 : Int32) by rw [e20]; decide), if_neg (show ¬ _ = (150 : Int32) by rw [e20]; decide), if_neg (show ¬ _ = (151 : Int32) by rw [e20]; decide), if_neg (show ¬ _ = (152 : Int32) by rw [e20]; decide), if_neg (show ¬ _ = (154 : Int32) by rw [e20]; decide), if_neg (show ¬ _ = (155 : Int32) by rw [e20]; decide), if_neg (show ¬ _ = (156 : Int32) by rw [e20]; decide), if_neg (show ¬ _ = (157 : Int32) by rw [e20]; decide), if_neg (show ¬ _ = (158 : Int32) by rw [e20]; decide), if_neg (show ¬ _ = (159 : Int32) by rw [e20]; decide), if_neg (show ¬ _ = (160 : Int32) by rw [e20]; decide), if_neg (show ¬ _ = (161 : Int32) by rw [e20]; decide), if_neg (show ¬ _ = (162 : Int32) by rw [e20]; decide), if_neg (show ¬ _ = (163 : Int32) by rw [e20]; decide), if_neg (show ¬ _ = (164 : Int32) by rw [e20]; decide), if_neg (show ¬ _ = (165 : Int32) by rw [e20]; decide), if_neg (show ¬ _ = (166 : Int32) by rw [e20]; decide), if_neg (show ¬ _ = (172 : Int32) by rw [e20]; decide), if_neg (show ¬ _ = (173 : Int32) by rw [e20]; decide), if_neg (show ¬ _ = (174 : Int32) by rw [e20]; decide), gyT]
        unfold f123
        rw [r9', grd k6, if_pos zr, zlet, grd k6, if_pos zr, zlet, nxN (show r < 2 ^ 31 by omega), e21', if_pos rfl]
      · rw [e242, gyS]
        unfold f263
        rw [r11, grd k12, if_pos zr, zlet, grd k12, if_pos zr, nxN (show r < 2 ^ 31 by omega), e19, if_pos (show nI 0 = (0 : Int32) from rfl), grd k12, if_pos zr, e17, if_pos rfl, e15]
    · have hv8 : v < 8 := by omega
      refine ⟨v, hv, nI v, ?_, ?_⟩
      · have e21' : s2.1 (x + 19 + 2) r = nI v := by
          have : s2.1 (x + 21) r = s.1 (x + 21) r := by rw [scC_a o1 (by omega) (by omega) (by omega) (by omega)]
          rw [← e21]
          exact this
        unfold f97
        rw [r9', grd k6, if_pos zr, zlet, if_pos z0_64, zlet, grd k6, if_pos zr, nxN (show r < 2 ^ 31 by omega), x0_n, if_neg (show ¬ _ = (1 : Int32) by rw [e20]; decide), if_neg (show ¬ _ = (91 : Int32) by rw [e20]; decide), if_neg (show ¬ _ = (149 : Int32) by rw [e20]; decide), if_neg (show ¬ _ = (150 : Int32) by rw [e20]; decide), if_neg (show ¬ _ = (151 : Int32) by rw [e20]; decide), if_neg (show ¬ _ = (152 : Int32) by rw [e20]; decide), if_neg (show ¬ _ = (154 : Int32) by rw [e20]; decide), if_neg (show ¬ _ = (155 : Int32) by rw [e20]; decide), if_neg (show ¬ _ = (156 : Int32) by rw [e20]; decide), if_neg (show ¬ _ = (157 : Int32) by rw [e20]; decide), if_neg (show ¬ _ = (158 : Int32) by rw [e20]; decide), if_neg (show ¬ _ = (159 : Int32) by rw [e20]; decide), if_neg (show ¬ _ = (160 : Int32) by rw [e20]; decide), if_neg (show ¬ _ = (161 : Int32) by rw [e20]; decide), if_neg (show ¬ _ = (162 : Int32) by rw [e20]; decide), if_neg (show ¬ _ = (163 : Int32) by rw [e20]; decide), if_neg (show ¬ _ = (164 : Int32) by rw [e20]; decide), if_neg (show ¬ _ = (165 : Int32) by rw [e20]; decide), if_neg (show ¬ _ = (166 : Int32) by rw [e20]; decide), if_neg (show ¬ _ = (172 : Int32) by rw [e20]; decide), if_neg (show ¬ _ = (173 : Int32) by rw [e20]; decide), if_neg (show ¬ _ = (174 : Int32) by rw [e20]; decide), gyT, c_123 hxx r9' zr hr e21' hv8 (hR.1.2.2.2.2.2.2 v hv8)]
      · rw [e242, gyS, m_263 hyy r11 zr hr e15 e19 e17 hu0 e33]
  have hv8 : v < 8 := by omega
  have zv : zin? (nI v) 8 = true := (zinN (by omega)).mpr hv8
  have nv := nxN (show v < 2 ^ 31 by omega)
  obtain ⟨ta, tt1, tf⟩ := hR.2.2.2.2.1 v hv8 (by omega)
  obtain ⟨a, k, b1, b2, b3, -, b5, b6, b7, -⟩ := id tt1
  have a31 : a < 2 ^ 31 := Nat.lt_of_le_of_lt b1 (by decide)
  have m7 : f246 n 7 t = some (sI t 1132 69 (nI 7)) := m_sig (w := 7) h69
  have e36 : f97 n (1036 + 3 * i) (nI r) s2 = (if nI a = 0 then some ((7 : Int32), s2) else yb0 (f126 n (1036 + 3 * v) s2) fun u13 => if 1036 + 3 * v = 1036 + 3 * i then some ((-1 : Int32), u13) else some ((0 : Int32), u13)) := by
    rw [e97]
    unfold f123_36
    rw [r9', grd k6, if_pos zr, nxN (show r < 2 ^ 31 by omega), if_neg (show ¬ _ = (167 : Int32) by rw [e20]; decide), if_neg (show ¬ _ = (168 : Int32) by rw [e20]; decide), if_neg (show ¬ _ = (169 : Int32) by rw [e20]; decide), if_neg (show ¬ _ = (170 : Int32) by rw [e20]; decide), if_neg (show ¬ _ = (171 : Int32) by rw [e20]; decide), b2]
  have e63 : f242 n (nI i) (nI r) t = (if nI a = 0 then yb0 (f246 n (7 : Int32) t) fun u8 => some u8 else yb0 (f219 n 4 (nI v) t) fun u7 => if nI v = nI i then some u7 else f263_314 n (nI i) u7) := by
    rw [e263]
    unfold f263_63
    rw [if_neg (show ¬ (18 : Int32) = 16 by decide), if_neg (show ¬ (18 : Int32) = 17 by decide), if_pos (show (18 : Int32) = 18 from rfl), if_pos zv, nv, b3]
  by_cases a0 : nI a = 0
  · rw [if_pos a0] at e36 e63
    have h3 : aH G F W B C x y i D r s2 (sI t 1132 69 (nI 7)) := aH_sc scC_rf scM_69 h2
    exact sig_2 hb h3 (by decide) hIe c1 e36 (by rw [e63, m7]; rfl)
  · rw [if_neg a0] at e36 e63
    obtain ⟨a1, a2, a3, a4, a5, a6⟩ := id tf
    have p0 : 0 < Ft F i D r v 3 0 := by
      rcases Nat.eq_zero_or_pos (Ft F i D r v 3 0) with q | q
      · exact absurd (b2.symm.trans (a3.mpr q)) a0
      · exact q
    obtain ⟨a7, a8, a9, -⟩ := a5 p0
    have zl : zL (Ft F i D r) v (Ft F i D r v 3 0) = Ft F i D r v 2 (Ft F i D r v 3 0 - 1) := by
      obtain ⟨m, hm⟩ : ∃ m, Ft F i D r v 3 0 = m + 1 := ⟨_, (Nat.succ_pred_eq_of_pos p0).symm⟩
      rw [hm]
      rfl
    obtain ⟨s3, t3, F3, W3, C3, d1, d2, d3, d4, d5, d6, -⟩ := ends_ok (n := n) (k := k) (e := 8) (m := 3) (i := v) (by have := hb.1; omega) (Or.inr rfl) hR hv (by omega) ta b5 b6 b7 a1 a2 (fun d hd => (a6 d hd).1) (by rw [zl]; exact a8) (by rw [zl]; exact a9) a7
    rw [d1, gy0] at e36
    rw [d2, gy0] at e63
    have t69 : t3.1 1132 69 = 0 := by rw [d6.2.2.2.2.2.2.2]; exact h69
    by_cases vi : v = i
    · subst vi
      rw [if_pos rfl] at e36 e63
      refine ⟨s3, t3, F3, W3, B, C3, ?_, ?_, d3, by omega, by omega⟩
      · unfold cP
        rw [c1, gy1, if_pos rfl, e36, gy1]
        unfold f89_41
        rw [if_neg (by decide), if_neg (by decide), if_neg (by decide), if_neg (by decide)]
      · unfold mP
        rw [e63, gy0, if_pos t69]
    · rw [if_neg (by omega)] at e36
      rw [if_neg (fun q => vi ((neqN (by omega) (by omega)).mp q)), m_314 t69] at e63
      exact on_3 d4 hb hC (aH_op h2 d3 hv8 d5 d6 (fun q => absurd q vi)) t69 c1 e36 e63
theorem act_16n (hb : bR B C n) (hC : C < 799999999) (h : aH G F W B C x y i D r s t) (h69 : t.1 1132 69 = 0) (hk : G 10 r = 16) (e19 : t.1 (y + 19) r = nI 0) : pR G B C x y (cP n i r s) (mP n i r t) := by
  have hr := aH_r h
  obtain ⟨hxx, hyy, r9, r11, w3, w4, w6, zr, z8, hi⟩ := aH_k h
  obtain ⟨k9, k6, k0⟩ := gck9 hxx
  have k12 := gck12 hyy
  have e15 : t.1 (y + 15) r = 16 := by rw [w4, hk]; rfl
  obtain ⟨hA, hd⟩ := tO_16 hk w6
  have n1 : ∀ c : Nat, ¬ c = 0 → c < 5 → t.1 (y + 19) r = nI c → False := fun c q0 q1 q2 => q0 ((neqN (b := 0) (by omega) (by decide)).mp (q2.symm.trans e19))
  obtain ⟨e22, hE⟩ : s.1 (x + 22) r = -1 ∧ tE G x y r 0 s t := by
    rcases hd with ⟨-, q1, q2⟩ | ⟨q, -⟩ | ⟨q, -⟩ | ⟨q, -⟩ | ⟨q, -⟩ | ⟨q, -⟩
    · exact ⟨q1, q2⟩
    · exact absurd q (fun q => n1 1 (by decide) (by decide) q)
    · exact absurd q (fun q => n1 2 (by decide) (by decide) q)
    · exact absurd q (fun q => n1 3 (by decide) (by decide) q)
    · exact absurd q (fun q => n1 3 (by decide) (by decide) q)
    · exact absurd q (fun q => n1 4 (by decide) (by decide) q)
  have c1 := work_0 hb.1 h hE
  have h2 : aH G F W B C x y i D r (sI s 1007 16 0) t := aH_sc scC_160 scM_rf h
  generalize hs2 : sI s 1007 16 0 = s2 at c1 h2
  have o1 : scC s s2 := by rw [← hs2]; exact scC_160
  have r9' : s2.2.2 1007 9 = some (x + 19) := by rw [o1.1]; exact r9
  have e20 : s2.1 (x + 19 + 1) r = 167 := by
    have : s2.1 (x + 20) r = nI 167 := zk_lit hk rfl (aH_k h2).2.2.2.2.1
    exact this
  have e242 : f242 n (nI i) (nI r) t = yb0 (f263 n (nI i) (nI r) t) fun u1 => some u1 := by
    unfold f242
    rw [r11, grd k12, if_pos zr, nxN (show r < 2 ^ 31 by omega), if_neg (show ¬ _ = (1 : Int32) by rw [e15]; decide), if_neg (show ¬ _ = (2 : Int32) by rw [e15]; decide), if_neg (show ¬ _ = (3 : Int32) by rw [e15]; decide), if_neg (show ¬ _ = (4 : Int32) by rw [e15]; decide), if_neg (show ¬ _ = (5 : Int32) by rw [e15]; decide), if_neg (show ¬ _ = (6 : Int32) by rw [e15]; decide), if_neg (show ¬ _ = (7 : Int32) by rw [e15]; decide), if_neg (show ¬ _ = (8 : Int32) by rw [e15]; decide), if_neg (show ¬ _ = (9 : Int32) by rw [e15]; decide), if_neg (show ¬ _ = (10 : Int32) by rw [e15]; decide), if_neg (show ¬ _ = (11 : Int32) by rw [e15]; decide), if_neg (show ¬ _ = (12 : Int32) by rw [e15]; decide), if_neg (show ¬ _ = (13 : Int32) by rw [e15]; decide), if_neg (show ¬ _ = (14 : Int32) by rw [e15]; decide), if_neg (show ¬ _ = (15 : Int32) by rw [e15]; decide), if_neg (show ¬ _ = (22 : Int32) by rw [e15]; decide), if_neg (show ¬ _ = (23 : Int32) by rw [e15]; decide), if_neg (show ¬ _ = (24 : Int32) by rw [e15]; decide), if_neg (show ¬ _ = (25 : Int32) by rw [e15]; decide), if_neg (show ¬ _ = (26 : Int32) by rw [e15]; decide), if_neg (show ¬ _ = (27 : Int32) by rw [e15]; decide), if_neg (show ¬ _ = (28 : Int32) by rw [e15]; decide)]
    rfl
  obtain ⟨u, v, hu0, hv, e17, e33, e21⟩ := hA
  have h88 := (h.1.1.2.1.1.1 8 (by decide)).2.2
  have hv8 : v < 8 := by omega
  have zv : zin? (nI v) 8 = true := (zinN (by omega)).mpr hv8
  have nv := nxN (show v < 2 ^ 31 by omega)
  have nr := nxN (show r < 2 ^ 31 by omega)
  have e21' : s2.1 (x + 19 + 2) r = nI v := by
    have : s2.1 (x + 21) r = s.1 (x + 21) r := by rw [scC_a o1 (by omega) (by omega) (by omega) (by omega)]
    rw [← e21]
    exact this
  have hR := aH_run h2
  have rt := hR.1.2.2.2.2.2.2 v hv8
  obtain ⟨ta, tt1, tf⟩ := hR.2.2.2.2.1 v hv8 (by omega)
  obtain ⟨a, k, b1, b2, b3, -⟩ := id tt1
  have a31 : a < 2 ^ 31 := Nat.lt_of_le_of_lt b1 (by decide)
  have e97 : f97 n (1036 + 3 * i) (nI r) s2 = f123_36 n (1036 + 3 * i) (nI r) (nI v) (s2.1 (x + 19 + 3) r) (1036 + 3 * v) s2 := by
    unfold f97
    rw [r9', grd k6, if_pos zr, zlet, if_pos z0_64, zlet, grd k6, if_pos zr, nxN (show r < 2 ^ 31 by omega), x0_n, if_neg (show ¬ _ = (1 : Int32) by rw [e20]; decide), if_neg (show ¬ _ = (91 : Int32) by rw [e20]; decide), if_neg (show ¬ _ = (149 : Int32) by rw [e20]; decide), if_neg (show ¬ _ = (150 : Int32) by rw [e20]; decide), if_neg (show ¬ _ = (151 : Int32) by rw [e20]; decide), if_neg (show ¬ _ = (152 : Int32) by rw [e20]; decide), if_neg (show ¬ _ = (154 : Int32) by rw [e20]; decide), if_neg (show ¬ _ = (155 : Int32) by rw [e20]; decide), if_neg (show ¬ _ = (156 : Int32) by rw [e20]; decide), if_neg (show ¬ _ = (157 : Int32) by rw [e20]; decide), if_neg (show ¬ _ = (158 : Int32) by rw [e20]; decide), if_neg (show ¬ _ = (159 : Int32) by rw [e20]; decide), if_neg (show ¬ _ = (160 : Int32) by rw [e20]; decide), if_neg (show ¬ _ = (161 : Int32) by rw [e20]; decide), if_neg (show ¬ _ = (162 : Int32) by rw [e20]; decide), if_neg (show ¬ _ = (163 : Int32) by rw [e20]; decide), if_neg (show ¬ _ = (164 : Int32) by rw [e20]; decide), if_neg (show ¬ _ = (165 : Int32) by rw [e20]; decide), if_neg (show ¬ _ = (166 : Int32) by rw [e20]; decide), if_neg (show ¬ _ = (172 : Int32) by rw [e20]; decide), if_neg (show ¬ _ = (173 : Int32) by rw [e20]; decide), if_neg (show ¬ _ = (174 : Int32) by rw [e20]; decide), gyT, c_123 hxx r9' zr hr e21' hv8 rt]
  have e263 : f242 n (nI i) (nI r) t = f263_63 n (nI i) (nI r) 16 (nI v) t := by
    rw [e242, gyS, m_263 hyy r11 zr hr e15 e19 e17 hu0 e33]
  have e22' : s2.1 (x + 19 + 3) r = -1 := by
    have : s2.1 (x + 22) r = s.1 (x + 22) r := by rw [scC_a o1 (by omega) (by omega) (by omega) (by omega)]
    rw [← e22]
    exact this
  obtain ⟨-, -, -, -, -, -, c3, -⟩ := id h2.1
  obtain ⟨s3, t3, F3, W3, C3, d1, d2, d3, d4, d5, d6, d7, -⟩ := start_ok (n := n) (o := v) (by have := hb.1; omega) hR hv (by omega)
  have t69 : t3.1 1132 69 = 0 := by rw [d6.2.2.2.2.2.2.2]; exact h69
  have h3 := aH_op h2 d3 hv8 d5 d6 (fun q => by subst q; exact ⟨by rw [(d7 (zAc_0 c3)).1]; exact c3, (d7 (zAc_0 c3)).2.1, (d7 (zAc_0 c3)).2.2.1⟩)
  refine on_3 d4 hb hC h3 t69 c1 ?_ ?_
  · rw [e97]
    unfold f123_36
    rw [r9', grd k6, if_pos zr, nxN (show r < 2 ^ 31 by omega), if_pos e20, e22', if_pos rfl, nLmul, d1]
    rfl
  · rw [e263]
    unfold f263_63
    rw [if_pos (show (16 : Int32) = 16 from rfl), d2, gy0, m_314 t69]
theorem act_17n (hb : bR B C n) (hC : C < 799999999) (h : aH G F W B C x y i D r s t) (h69 : t.1 1132 69 = 0) (hk : G 10 r = 17) (e19 : t.1 (y + 19) r = nI 0) : pR G B C x y (cP n i r s) (mP n i r t) := by
  have hr := aH_r h
  obtain ⟨hxx, hyy, r9, r11, w3, w4, w6, zr, z8, hi⟩ := aH_k h
  obtain ⟨k9, k6, k0⟩ := gck9 hxx
  have k12 := gck12 hyy
  have e15 : t.1 (y + 15) r = 17 := by rw [w4, hk]; rfl
  obtain ⟨hA, hd⟩ := tO_17 hk w6
  have n1 : ∀ c : Nat, ¬ c = 0 → c < 5 → t.1 (y + 19) r = nI c → False := fun c q0 q1 q2 => q0 ((neqN (b := 0) (by omega) (by decide)).mp (q2.symm.trans e19))
  obtain ⟨e22, hE⟩ : s.1 (x + 22) r = -1 ∧ tE G x y r 0 s t := by
    rcases hd with ⟨-, q1, q2⟩ | ⟨q, -⟩ | ⟨q, -⟩ | ⟨q, -⟩ | ⟨q, -⟩ | ⟨q, -⟩
    · exact ⟨q1, q2⟩
    · exact absurd q (fun q => n1 1 (by decide) (by decide) q)
    · exact absurd q (fun q => n1 2 (by decide) (by decide) q)
    · exact absurd q (fun q => n1 3 (by decide) (by decide) q)
    · exact absurd q (fun q => n1 3 (by decide) (by decide) q)
    · exact absurd q (fun q => n1 4 (by decide) (by decide) q)
  have c1 := work_0 hb.1 h hE
  have h2 : aH G F W B C x y i D r (sI s 1007 16 0) t := aH_sc scC_160 scM_rf h
  generalize hs2 : sI s 1007 16 0 = s2 at c1 h2
  have o1 : scC s s2 := by rw [← hs2]; exact scC_160
  have r9' : s2.2.2 1007 9 = some (x + 19) := by rw [o1.1]; exact r9
  have e20 : s2.1 (x + 19 + 1) r = 168 := by
    have : s2.1 (x + 20) r = nI 168 := zk_lit hk rfl (aH_k h2).2.2.2.2.1
    exact this
  have e242 : f242 n (nI i) (nI r) t = yb0 (f263 n (nI i) (nI r) t) fun u1 => some u1 := by
    unfold f242
    rw [r11, grd k12, if_pos zr, nxN (show r < 2 ^ 31 by omega), if_neg (show ¬ _ = (1 : Int32) by rw [e15]; decide), if_neg (show ¬ _ = (2 : Int32) by rw [e15]; decide), if_neg (show ¬ _ = (3 : Int32) by rw [e15]; decide), if_neg (show ¬ _ = (4 : Int32) by rw [e15]; decide), if_neg (show ¬ _ = (5 : Int32) by rw [e15]; decide), if_neg (show ¬ _ = (6 : Int32) by rw [e15]; decide), if_neg (show ¬ _ = (7 : Int32) by rw [e15]; decide), if_neg (show ¬ _ = (8 : Int32) by rw [e15]; decide), if_neg (show ¬ _ = (9 : Int32) by rw [e15]; decide), if_neg (show ¬ _ = (10 : Int32) by rw [e15]; decide), if_neg (show ¬ _ = (11 : Int32) by rw [e15]; decide), if_neg (show ¬ _ = (12 : Int32) by rw [e15]; decide), if_neg (show ¬ _ = (13 : Int32) by rw [e15]; decide), if_neg (show ¬ _ = (14 : Int32) by rw [e15]; decide), if_neg (show ¬ _ = (15 : Int32) by rw [e15]; decide), if_neg (show ¬ _ = (22 : Int32) by rw [e15]; decide), if_neg (show ¬ _ = (23 : Int32) by rw [e15]; decide), if_neg (show ¬ _ = (24 : Int32) by rw [e15]; decide), if_neg (show ¬ _ = (25 : Int32) by rw [e15]; decide), if_neg (show ¬ _ = (26 : Int32) by rw [e15]; decide), if_neg (show ¬ _ = (27 : Int32) by rw [e15]; decide), if_neg (show ¬ _ = (28 : Int32) by rw [e15]; decide)]
    rfl
  obtain ⟨u, v, hu0, hv, e17, e33, e21⟩ := hA
  have h88 := (h.1.1.2.1.1.1 8 (by decide)).2.2
  have hv8 : v < 8 := by omega
  have zv : zin? (nI v) 8 = true := (zinN (by omega)).mpr hv8
  have nv := nxN (show v < 2 ^ 31 by omega)
  have nr := nxN (show r < 2 ^ 31 by omega)
  have e21' : s2.1 (x + 19 + 2) r = nI v := by
    have : s2.1 (x + 21) r = s.1 (x + 21) r := by rw [scC_a o1 (by omega) (by omega) (by omega) (by omega)]
    rw [← e21]
    exact this
  have hR := aH_run h2
  have rt := hR.1.2.2.2.2.2.2 v hv8
  obtain ⟨ta, tt1, tf⟩ := hR.2.2.2.2.1 v hv8 (by omega)
  obtain ⟨a, k, b1, b2, b3, -⟩ := id tt1
  have a31 : a < 2 ^ 31 := Nat.lt_of_le_of_lt b1 (by decide)
  have e97 : f97 n (1036 + 3 * i) (nI r) s2 = f123_36 n (1036 + 3 * i) (nI r) (nI v) (s2.1 (x + 19 + 3) r) (1036 + 3 * v) s2 := by
    unfold f97
    rw [r9', grd k6, if_pos zr, zlet, if_pos z0_64, zlet, grd k6, if_pos zr, nxN (show r < 2 ^ 31 by omega), x0_n, if_neg (show ¬ _ = (1 : Int32) by rw [e20]; decide), if_neg (show ¬ _ = (91 : Int32) by rw [e20]; decide), if_neg (show ¬ _ = (149 : Int32) by rw [e20]; decide), if_neg (show ¬ _ = (150 : Int32) by rw [e20]; decide), if_neg (show ¬ _ = (151 : Int32) by rw [e20]; decide), if_neg (show ¬ _ = (152 : Int32) by rw [e20]; decide), if_neg (show ¬ _ = (154 : Int32) by rw [e20]; decide), if_neg (show ¬ _ = (155 : Int32) by rw [e20]; decide), if_neg (show ¬ _ = (156 : Int32) by rw [e20]; decide), if_neg (show ¬ _ = (157 : Int32) by rw [e20]; decide), if_neg (show ¬ _ = (158 : Int32) by rw [e20]; decide), if_neg (show ¬ _ = (159 : Int32) by rw [e20]; decide), if_neg (show ¬ _ = (160 : Int32) by rw [e20]; decide), if_neg (show ¬ _ = (161 : Int32) by rw [e20]; decide), if_neg (show ¬ _ = (162 : Int32) by rw [e20]; decide), if_neg (show ¬ _ = (163 : Int32) by rw [e20]; decide), if_neg (show ¬ _ = (164 : Int32) by rw [e20]; decide), if_neg (show ¬ _ = (165 : Int32) by rw [e20]; decide), if_neg (show ¬ _ = (166 : Int32) by rw [e20]; decide), if_neg (show ¬ _ = (172 : Int32) by rw [e20]; decide), if_neg (show ¬ _ = (173 : Int32) by rw [e20]; decide), if_neg (show ¬ _ = (174 : Int32) by rw [e20]; decide), gyT, c_123 hxx r9' zr hr e21' hv8 rt]
  have e263 : f242 n (nI i) (nI r) t = f263_63 n (nI i) (nI r) 17 (nI v) t := by
    rw [e242, gyS, m_263 hyy r11 zr hr e15 e19 e17 hu0 e33]
  have e22' : s2.1 (x + 19 + 3) r = -1 := by
    have : s2.1 (x + 22) r = s.1 (x + 22) r := by rw [scC_a o1 (by omega) (by omega) (by omega) (by omega)]
    rw [← e22]
    exact this
  obtain ⟨-, -, -, -, -, -, c3, -⟩ := id h2.1
  have e36 : f97 n (1036 + 3 * i) (nI r) s2 = f87 n (nI (2 * v + 1)) s2 := by
    rw [e97]
    unfold f123_36
    rw [r9', grd k6, if_pos zr, nxN (show r < 2 ^ 31 by omega), if_neg (show ¬ _ = (167 : Int32) by rw [e20]; decide), if_pos e20, e22', if_pos rfl, nLmul, naddL, gyT]
  have e63 : f242 n (nI i) (nI r) t = yb1 (f225 n (nI v) t) fun v10 u9 => if v10 = (0 : Int32) then yb0 (f246 n (7 : Int32) u9) fun u11 => f263_314 n (nI i) u11 else f263_314 n (nI i) u9 := by
    rw [e263]
    unfold f263_63
    rw [if_neg (show ¬ (17 : Int32) = 16 by decide), if_pos (show (17 : Int32) = 17 from rfl)]
  have m7 : f246 n 7 t = some (sI t 1132 69 (nI 7)) := m_sig (w := 7) h69
  rcases go_ok (n := n) (o := v) hR hv (by omega) with ⟨d1, d2⟩ | ⟨s3, t3, W3, C3, d1, d2, d3, d4, d5, d6, d7⟩
  · have h3 : aH G F W B C x y i D r s2 (sI t 1132 69 (nI 7)) := aH_sc scC_rf scM_69 h2
    refine sig_2 hb h3 (by decide) hIe c1 (by rw [e36, d1]; rfl) ?_
    rw [e63, d2, gy1, if_pos rfl, m7, gy0]
    exact (m_314w (v := 0) (u := 0) (w := 7) (by decide) hIe).1
  · have t69 : t3.1 1132 69 = 0 := by rw [d6.2.2.2.2.2.2.2]; exact h69
    have h3 := aH_op h2 d3 hv8 d5 d6 (fun q => by
      subst q
      refine ⟨?_, d7.2.1, d7.2.2.1⟩
      rcases d7.1 with ⟨w, -⟩ | ⟨-, w⟩
      · rw [w]; decide
      · exact absurd (Or.inr (Or.inr w)) c3)
    refine on_3 d4 hb hC h3 t69 c1 (by rw [e36, d1]) ?_
    rw [e63, d2, gy1, if_neg (by decide), m_314 t69]
end ZAU
