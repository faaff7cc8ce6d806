/-! the act take -/
section ZBB
variable {G W : Nat → Nat → Nat} {F : Nat → Nat → Nat → Nat} {B C x y n i D r v z : Nat} {s t s2 t2 : zσ}
theorem c_116 (hv : v < 4) (hz : z < 20) (h : s.1 1019 v = nI (z + 1)) : f116 n (nI v) s = some (s.1 1018 (20 * v), sC (sI s 1019 v (nI z)) 1018 (20 * v + 1) 1018 (20 * v) z) := by
  have z4 : zin? (nI v) 4 = true := (zinN (by omega)).mpr hv
  have z80 : zin? (nI (20 * v)) 80 = true := (zinN (by omega)).mpr (by omega)
  have zc : zcpo (nI (20 * v + 1)) (nI (20 * v)) (nI z) 80 80 = true := by
    unfold zcpo
    rw [nxN (show 20 * v + 1 < 2 ^ 31 by omega), nxN (show 20 * v < 2 ^ 31 by omega), nxN (show z < 2 ^ 31 by omega)]
    have q1 := nIM0 (show z < 2 ^ 31 by omega)
    have q2 := nIM0 (show 20 * v < 2 ^ 31 by omega)
    have q3 := nIM0 (show 20 * v + 1 < 2 ^ 31 by omega)
    rw [decide_eq_true (show ¬ (nI z < 0 ∨ nI (20 * v) < 0 ∨ nI (20 * v + 1) < 0) by simp only [q1, q2, q3, or_false, not_false_eq_true]), decide_eq_true (show 20 * v + 1 + z ≤ 80 ∧ 20 * v + z ≤ 80 by omega)]
    rfl
  have l0 : (0 : Int32) < nI (z + 1) := (nltN (a := 0) (by decide) (by omega)).mpr (by omega)
  unfold f116
  rw [zlet, nmulL, if_pos z80, zlet, if_pos z4, nxN (show v < 2 ^ 31 by omega), h, if_pos l0, if_pos z4, if_pos z4, zlet, nI_pred, if_pos z4, hIe, naddL, if_pos zc, zlet, nxN (show 20 * v + 1 < 2 ^ 31 by omega), nxN (show 20 * v < 2 ^ 31 by omega), nxN (show z < 2 ^ 31 by omega)]
theorem m_236L {X : Int32} (hv : v < 4) (hz : z < 20) : ∀ m k j (t : zσ), k + m = z → m < j → t.1 1218 v = nI z → ∃ t2, f236_22 n j (nI v) X (nI k) t = some (X, t2) ∧ t2.2 = t.2 ∧ (∀ a, a ≠ 1217 → t2.1 a = t.1 a) ∧ (∀ q, k ≤ q → q < z → t2.1 1217 (20 * v + q) = t.1 1217 (20 * v + q + 1)) ∧ (∀ q, ¬ (20 * v + k ≤ q ∧ q < 20 * v + z) → t2.1 1217 q = t.1 1217 q) := by
  have z4 : zin? (nI v) 4 = true := (zinN (by omega)).mpr hv
  intro m
  induction m with
  | zero =>
    intro k j t hk hj h
    obtain ⟨j, rfl⟩ : ∃ j0, j = j0 + 1 := ⟨j - 1, by omega⟩
    refine ⟨t, ?_, rfl, fun _ _ => rfl, fun q h1 h2 => by omega, fun _ _ => rfl⟩
    rw [f236_22, if_pos z4, nxN (show v < 2 ^ 31 by omega), h, show k = z by omega, if_neg Int32.lt_irrefl]
  | succ m ih =>
    intro k j t hk hj h
    obtain ⟨j, rfl⟩ : ∃ j0, j = j0 + 1 := ⟨j - 1, by omega⟩
    have y1 : zin? (nI (20 * v + k)) 80 = true := (zinN (by omega)).mpr (by omega)
    have y2 : zin? (nI (20 * v + k + 1)) 80 = true := (zinN (by omega)).mpr (by omega)
    obtain ⟨t2, e1, e2, e3, e4, e5⟩ := ih (k + 1) j (sI t 1217 (20 * v + k) (t.1 1217 (20 * v + k + 1))) (by omega) (by omega) (by rw [hIo (by decide)]; exact h)
    refine ⟨t2, ?_, e2, fun a ha => by rw [e3 a ha, hIo ha], fun q h1 h2 => ?_, fun q hq => by rw [e5 q (by omega), hIk (by omega)]⟩
    · rw [f236_22, if_pos z4, nxN (show v < 2 ^ 31 by omega), h, if_pos ((nltN (by omega) (by omega)).mpr (show k < z by omega)), nLmul, naddN, naddL, if_pos y2, if_pos y1, zlet, nxN (show 20 * v + k < 2 ^ 31 by omega), nxN (show 20 * v + k + 1 < 2 ^ 31 by omega), naddL, e1]
    · by_cases w : q = k
      · rw [w, e5 _ (by omega), hIe]
      · rw [e4 q (by omega) h2, hIk (by omega)]
theorem m_236 (hn : 100 ≤ n) (hv : v < 4) (hz : z < 20) (h : t.1 1218 v = nI (z + 1)) : ∃ t2, f236 n (nI v) t = some (t.1 1217 (20 * v), t2) ∧ t2.2 = t.2 ∧ (∀ a, a ≠ 1217 → t2.1 a = (sI t 1218 v (nI z)).1 a) ∧ (∀ q, q < z → t2.1 1217 (20 * v + q) = t.1 1217 (20 * v + q + 1)) ∧ (∀ q, ¬ (20 * v ≤ q ∧ q < 20 * v + z) → t2.1 1217 q = t.1 1217 q) := by
  have z4 : zin? (nI v) 4 = true := (zinN (by omega)).mpr hv
  have z80 : zin? (nI (20 * v)) 80 = true := (zinN (by omega)).mpr (by omega)
  obtain ⟨t2, e1, e2, e3, e4, e5⟩ := m_236L (n := n) (X := t.1 1217 (20 * v)) hv hz z 0 n (sI t 1218 v (nI z)) (by omega) (by omega) hIe
  refine ⟨t2, ?_, e2, e3, fun q hq => by rw [e4 q (by omega) hq, hIo (by decide)], fun q hq => by rw [e5 q (by omega), hIo (by decide)]⟩
  unfold f236
  rw [nLmul, if_pos z80, zlet, if_pos z4, if_pos z4, zlet, nxN (show v < 2 ^ 31 by omega), h, nI_pred, nxN (show 20 * v < 2 ^ 31 by omega)]
  exact e1
theorem act_23 (hb : bR B C n) (hC : C < 799999999) (h : aH G F W B C x y i D r s t) (h69 : t.1 1132 69 = 0) (hk : G 10 r = 23) (ha : s.1 (1036 + 3 * i) 3 = 1) : pR G B C x y (cP n i r s) (mP n i r t) := by
  have hr := aH_r h
  obtain ⟨hxx, hyy, r9, r11, w3, w4, w6, zr, z8, hi⟩ := aH_k h
  obtain ⟨k9, k6, k0⟩ := gck9 hxx
  have k12 := gck12 hyy
  have e15 : t.1 (y + 15) r = 23 := by rw [w4, hk]; rfl
  obtain ⟨hA, hA2, hE⟩ := tO_23 hk w6
  have c1 := work_0 hb.1 h hE
  have h2 : aH G F W B C x y i D r (sI s 1007 16 0) t := aH_sc scC_160 scM_rf h
  generalize hs2 : sI s 1007 16 0 = s2 at c1 h2
  have o1 : scC s s2 := by rw [← hs2]; exact scC_160
  have r9' : s2.2.2 1007 9 = some (x + 19) := by rw [o1.1]; exact r9
  have e20 : s2.1 (x + 19 + 1) r = 165 := by
    have : s2.1 (x + 20) r = nI 165 := zk_lit hk rfl (aH_k h2).2.2.2.2.1
    exact this
  have e242 : f242 n (nI i) (nI r) t = yb0 (f259 n (nI i) (nI r) t) fun u1 => some u1 := by
    unfold f242
    rw [r11, grd k12, if_pos zr, nxN (show r < 2 ^ 31 by omega), if_neg (show ¬ _ = (1 : Int32) by rw [e15]; decide), if_neg (show ¬ _ = (2 : Int32) by rw [e15]; decide), if_neg (show ¬ _ = (3 : Int32) by rw [e15]; decide), if_neg (show ¬ _ = (4 : Int32) by rw [e15]; decide), if_neg (show ¬ _ = (5 : Int32) by rw [e15]; decide), if_neg (show ¬ _ = (6 : Int32) by rw [e15]; decide), if_neg (show ¬ _ = (7 : Int32) by rw [e15]; decide), if_neg (show ¬ _ = (8 : Int32) by rw [e15]; decide), if_neg (show ¬ _ = (9 : Int32) by rw [e15]; decide), if_neg (show ¬ _ = (10 : Int32) by rw [e15]; decide), if_neg (show ¬ _ = (11 : Int32) by rw [e15]; decide), if_neg (show ¬ _ = (12 : Int32) by rw [e15]; decide), if_neg (show ¬ _ = (13 : Int32) by rw [e15]; decide), if_neg (show ¬ _ = (14 : Int32) by rw [e15]; decide), if_neg (show ¬ _ = (15 : Int32) by rw [e15]; decide), if_neg (show ¬ _ = (22 : Int32) by rw [e15]; decide), if_pos e15]
    rfl
  obtain ⟨u, v, hu0, hv, e17, e33, e21⟩ := hA
  have z14 : zin? (nI u) 1400 = true := (zinN (by omega)).mpr hu0
  have n33 := nxN (show u < 2 ^ 31 by omega)
  have nr := nxN (show r < 2 ^ 31 by omega)
  have hm := h.1.1.2.1.1.2.1
  have e21' : s2.1 (x + 19 + 2) r = nI v := by
    have : s2.1 (x + 21) r = s.1 (x + 21) r := by rw [scC_a o1 (by omega) (by omega) (by omega) (by omega)]
    rw [← e21]
    exact this
  obtain ⟨u', w, hu', hw, e18, e33', e22⟩ := hA2
  have h60 := (h.1.1.2.1.1.1 0 (by decide)).2.2
  have hw8 : w < 8 := by omega
  have zw : zin? (nI w) 8 = true := (zinN (by omega)).mpr hw8
  have zu' : zin? (nI u') 1400 = true := (zinN (by omega)).mpr hu'
  have e22' : s2.1 (x + 19 + 3) r = nI w := by
    have : s2.1 (x + 22) r = s.1 (x + 22) r := by rw [scC_a o1 (by omega) (by omega) (by omega) (by omega)]
    rw [← e22]
    exact this
  have hv4 : v < 4 := by omega
  have z4 : zin? (nI v) 4 = true := (zinN (by omega)).mpr hv4
  have nv := nxN (show v < 2 ^ 31 by omega)
  have ha2 : s2.1 (1036 + 3 * i) 3 = 1 := by
    rw [scC_a o1 (by omega) (by omega) (by omega) (by omega)]
    exact ha
  have h3 := req_has hb h2 ha2
  have e97 : f97 n (1036 + 3 * i) (nI r) s2 = yb1 (f107 n (1036 + 3 * i) (nI r) (sI (sI s2 1007 15 (nI (W 4 0 + 1))) (1036 + 3 * i) 12 (nI (W 4 0 + 1)))) fun v4 u3 => if v4 = (0 : Int32) then some ((-1 : Int32), sI u3 (1036 + 3 * i) 3 3) else yb0 (f114 n (1036 + 3 * i) (nI r) u3) fun u5 => some ((0 : Int32), u5) := by
    unfold f97
    rw [r9', grd k6, if_pos zr, zlet, if_pos z0_64, zlet, grd k6, if_pos zr, nxN (show r < 2 ^ 31 by omega), x0_n, if_neg (show ¬ _ = (1 : Int32) by rw [e20]; decide), if_neg (show ¬ _ = (91 : Int32) by rw [e20]; decide), if_neg (show ¬ _ = (149 : Int32) by rw [e20]; decide), if_neg (show ¬ _ = (150 : Int32) by rw [e20]; decide), if_neg (show ¬ _ = (151 : Int32) by rw [e20]; decide), if_neg (show ¬ _ = (152 : Int32) by rw [e20]; decide), if_neg (show ¬ _ = (154 : Int32) by rw [e20]; decide), if_neg (show ¬ _ = (155 : Int32) by rw [e20]; decide), if_neg (show ¬ _ = (156 : Int32) by rw [e20]; decide), if_neg (show ¬ _ = (157 : Int32) by rw [e20]; decide), if_neg (show ¬ _ = (158 : Int32) by rw [e20]; decide), if_neg (show ¬ _ = (159 : Int32) by rw [e20]; decide), if_neg (show ¬ _ = (160 : Int32) by rw [e20]; decide), if_neg (show ¬ _ = (161 : Int32) by rw [e20]; decide), if_neg (show ¬ _ = (162 : Int32) by rw [e20]; decide), if_neg (show ¬ _ = (163 : Int32) by rw [e20]; decide), if_neg (show ¬ _ = (164 : Int32) by rw [e20]; decide), if_pos e20]
    unfold f97_406
    rw [gyT, c_106 h2]
  have eS : ∀ k, (sI (sI s2 1007 15 (nI (W 4 0 + 1))) (1036 + 3 * i) 12 (nI (W 4 0 + 1))).1 (x + 19 + k) = s2.1 (x + 19 + k) := fun k => by simp (disch := omega) only [hIo]
  generalize hs3 : (sI (sI s2 1007 15 (nI (W 4 0 + 1))) (1036 + 3 * i) 12 (nI (W 4 0 + 1))) = s3 at e97 h3 eS
  have r93 : s3.2.2 1007 9 = some (x + 19) := by rw [← hs3]; exact r9'
  obtain ⟨⟨d1, d2, d3, d4, d5, d6, d7, d8, d9, d10, d11⟩, dE⟩ := aH_d h3
  have n100 : 100 ≤ n := by have := hb.1; omega
  obtain ⟨Z, i0, i1, i2, i4⟩ := id (d7 v hv4)
  have e20s : s3.1 (x + 19 + 1) r = 165 := by rw [eS]; exact e20
  have e21s : s3.1 (x + 19 + 2) r = nI v := by rw [eS]; exact e21'
  have e22s : s3.1 (x + 19 + 3) r = nI w := by rw [eS]; exact e22'
  have e107 : f107 n (1036 + 3 * i) (nI r) s3 = (if 0 < nI Z then some ((1 : Int32), s3) else some ((0 : Int32), s3)) := by
    unfold f107
    rw [r93, grd k6, if_pos zr, zlet, grd k6, if_pos zr, nr, if_neg (show ¬ _ = (159 : Int32) by rw [e20s]; decide), if_neg (show ¬ _ = (161 : Int32) by rw [e20s]; decide), if_pos e20s, e21s, if_pos z4, nv, i1]
  have eM : f242 n (nI i) (nI r) t = (if nI Z = 0 then f257 n (nI i) t else yb1 (f236 n (nI v) t) fun v12 u11 => f237 n (nI i) (sI u11 1207 w v12)) := by
    rw [e242, gyS]
    unfold f259 f259_155
    rw [r11, grd k12, grd k12, if_pos zr, nr, e17, if_pos z14, zlet, n33, e33, grd k12, if_pos zr, if_pos e15, if_pos z4, nv, i2, gyS, grd k12, grd k12, if_pos zr, e18, if_pos zu', nxN (show u' < 2 ^ 31 by omega), e33', nxN (show w < 2 ^ 31 by omega)]
    simp only [if_pos zw, zlet, gyS]
  by_cases q1 : Z = 0
  · have z1 : ¬ (0 : Int32) < nI Z := by rw [q1]; decide
    rw [if_neg z1] at e107
    rw [if_pos (show nI Z = 0 by rw [q1]; rfl)] at eM
    refine req_wait (Or.inr (Or.inr (Or.inr hk))) hb h2 ha2 h69 c1 ?_ eM
    rw [e97, e107, gy1, if_pos rfl, hs3]
  · obtain ⟨z, rfl⟩ : ∃ z, Z = z + 1 := ⟨Z - 1, by omega⟩
    have hz : z < 20 := by omega
    rw [if_pos (show (0 : Int32) < nI (z + 1) from (nltN (a := 0) (by decide) (by omega)).mpr (by omega))] at e107
    rw [if_neg (show ¬ nI (z + 1) = 0 from fun e => by have := (neq0 (show z + 1 < 2 ^ 31 by omega)).mp e; omega)] at eM
    obtain ⟨t4, e1, e2, e3, e4, e5⟩ := m_236 n100 hv4 hz i2
    have mm : ∀ a, a ≠ 1217 → t4.1 a = (sI t 1218 v (nI z)).1 a := e3
    have i3 : s3.1 1018 (20 * v) = t.1 1217 (20 * v) := i4 0 (by omega)
    rw [e1, gy1] at eM
    have e114 : f114 n (1036 + 3 * i) (nI r) s3 = some (sI (sC (sI s3 1019 v (nI z)) 1018 (20 * v + 1) 1018 (20 * v) z) 1010 w (s3.1 1018 (20 * v))) := by
      unfold f114
      rw [r93, grd k6, if_pos zr, zlet, grd k6, if_pos zr, nr, if_neg (show ¬ _ = (159 : Int32) by rw [e20s]; decide), if_neg (show ¬ _ = (161 : Int32) by rw [e20s]; decide), if_pos e20s, grd k6, if_pos zr, e21s, c_116 hv4 hz i1, gy1, e22s, if_pos zw, nxN (show w < 2 ^ 31 by omega)]
      rfl
    have h4 : aH G (Ft F i D r) (Wt W) B (C + 1) x y i D r (sI (sC (sI s3 1019 v (nI z)) 1018 (20 * v + 1) 1018 (20 * v) z) 1010 w (s3.1 1018 (20 * v))) (sI t4 1207 w (t.1 1217 (20 * v))) := by
      refine aH_glob h3 ⟨rfl, fun a ha => by simp (disch := omega) only [hIo, hCo]⟩ ⟨by show t4.2 = t.2; exact e2, fun a q1 q2 q3 => by rw [hIo (by omega), mm a (by omega), hIo (by omega)], by rw [hIo (by decide), mm 1132 (by decide), hIo (by decide)]⟩ ⟨?_, ?_, ?_, ?_, ?_, ?_, ?_, ?_, ?_, ?_, ?_⟩ ?_
      · unfold rA at d1 ⊢
        simp (disch := omega) only [hIo, hIk, hCo, mm]
        exact d1
      · unfold rB at d2 ⊢
        simp (disch := omega) only [hIo, hIk, hCo, mm]
        exact d2
      · intro q hq
        by_cases e : q = w
        · subst e
          rw [hIe, hIe]
          exact i3
        · rw [hIk e, hIk e, hCo (by decide), hIo (by decide), e3 1207 (by decide), hIo (by decide)]
          exact d3 q hq
      · unfold rW at d4 ⊢
        simp (disch := omega) only [hIo, hIk, hCo, mm]
        exact d4
      · unfold rS at d5 ⊢
        simp (disch := omega) only [hIo, hIk, hCo, mm]
        exact d5
      · unfold rL at d6 ⊢
        simp (disch := omega) only [hIo, hIk, hCo, mm]
        exact d6
      · intro q hq
        obtain ⟨zz, j1, j2, j3, j4⟩ := d7 q hq
        by_cases e : q = v
        · subst e
          have ezz : zz = z + 1 := (neqN (by omega) (by omega)).mp (j2.symm.trans i1)
          subst ezz
          refine ⟨z, by omega, ?_, ?_, fun j hj => ?_⟩
          · rw [hIo (by decide), hCo (by decide), hIe]
          · rw [hIo (by decide), e3 1218 (by decide), hIe]
          · rw [hIo (by decide), hIo (by decide), e4 j hj, gC, if_pos ⟨rfl, by omega, by omega⟩, hIo (by decide), show 20 * q + 1 + (20 * q + j - 20 * q) = 20 * q + (j + 1) by omega]
            exact j4 (j + 1) (by omega)
        · refine ⟨zz, j1, ?_, ?_, fun j hj => ?_⟩
          · rw [hIo (by decide), hCo (by decide), hIk e]; exact j2
          · rw [hIo (by decide), e3 1218 (by decide), hIk e]; exact j3
          · rw [hIo (by decide), hIo (by decide), e5 _ (by omega), gC, if_neg (by omega), hIo (by decide)]
            exact j4 j hj
      · unfold rO at d8 ⊢
        simp (disch := omega) only [hIo, hIk, hCo, mm]
        exact d8
      · unfold rP at d9 ⊢
        simp (disch := omega) only [hIo, hIk, hCo, mm]
        exact d9
      · unfold rH at d10 ⊢
        simp (disch := omega) only [hIo, hIk, hCo, mm]
        exact d10
      · unfold rC at d11 ⊢
        simp (disch := omega) only [hIo, hIk, hCo, mm]
        exact d11
      · unfold rE at dE ⊢
        simp (disch := omega) only [hIo, hIk, hCo, mm]
        exact dE
    exact on_3 (Nat.le_refl _) hb hC h4 (by rw [hIo (by decide), mm 1132 (by decide), hIo (by decide)]; exact h69) c1 (by rw [e97, e107, gy1, if_neg (by decide), e114]; rfl) eM
end ZBB
