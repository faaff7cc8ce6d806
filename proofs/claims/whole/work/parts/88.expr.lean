/-! an expression, for both -/
section ZXP
variable {G W : Nat → Nat → Nat} {F : Nat → Nat → Nat → Nat} {B C x y n i D : Nat} {s t s2 t2 : zσ}
theorem scC_a (h : scC s s2) {a : Nat} (h1 : a ≠ 1033) (h2 : a ≠ 1035) (h3 : a ≠ 1035) (h4 : a ≠ 1007) : s2.1 a = s.1 a := funext fun k => h.2 a k h1 h2 h3 (by omega)
theorem scM_a (h : scM t t2) {a : Nat} (h1 : a ≠ 1246) (h2 : a ≠ 1247) (h3 : a ≠ 1247) (h4 : a ≠ 1132) : t2.1 a = t.1 a := funext fun k => h.2.2 a k h1 h2 h3 (by omega)
theorem tC_sc {b p : Nat} (hx : x = 1060 ∨ x = 1096) (hy : y = 1134 ∨ y = 1170) (h1 : scC s s2) (h2 : scM t t2) (h : tC G x y b p s t) : tC G x y b p s2 t2 := by
  have e27 := scC_a h1 (a := x + 27) (by omega) (by omega) (by omega) (by omega)
  have e28 := scC_a h1 (a := x + 28) (by omega) (by omega) (by omega) (by omega)
  have m27 := scM_a h2 (a := y + 27) (by omega) (by omega) (by omega) (by omega)
  have m28 := scM_a h2 (a := y + 28) (by omega) (by omega) (by omega) (by omega)
  have m33 := scM_a h2 (a := y + 33) (by omega) (by omega) (by omega) (by omega)
  have m34 := scM_a h2 (a := y + 34) (by omega) (by omega) (by omega) (by omega)
  unfold tC uV uA at h ⊢
  rw [e27, e28, m27, m28, m33, m34]
  exact h
/-- what comes of the codes from p on -/
def exO (n i r e hb p c1 h : Nat) (s t : zσ) : Prop := ∃ s2 t2, scC s s2 ∧ scE t t2 ∧ (∀ j, j < hb → s2.1 1033 j = s.1 1033 j) ∧ (((∀ j, f90_15 n (j + (c1 - p)) (1036 + 3 * i) (nI r) (nI p) s = f90_15 n j (1036 + 3 * i) (nI r) (nI c1) s2) ∧ s2.1 1007 16 = nI (hb + 1) ∧ t2.1 1132 69 = 0 ∧ (∀ j, f243_13 n (j + (c1 - p) + 1) (nI i) (nI e) (nI h) (nI p) t = some (s2.1 1033 hb, t2))) ∨ (∃ w, 1 ≤ w ∧ w < 20 ∧ t2.1 1132 69 = nI w ∧ (∀ j, f90_15 n (j + (c1 - p)) (1036 + 3 * i) (nI r) (nI p) s = some (nI w, s2)) ∧ (∀ j, f243_13 n (j + (c1 - p) + 1) (nI i) (nI e) (nI h) (nI p) t = some (0, t2))))
theorem m_done {e c1 j : Nat} {h3 p : Int32} (hy : y = 1134 ∨ y = 1170) (h11 : t.2.2 1132 11 = some y) (he : e < 401) (h69 : ¬ t.1 1132 69 = 0) (hto : t.1 (y + 26) e = nI c1) : f243_13 n (j + 1) (nI i) (nI e) h3 p t = some (0, t) := by
  have c12 := gck12 hy
  have z4 : zin? (nI e) 401 = true := (zinN (by omega)).mpr he
  rw [f243_13, h11, grd c12, if_pos z4, if_neg h69]
  unfold f243_267
  rw [if_neg h69]
  split <;> rfl
set_option maxHeartbeats 1000000 in
theorem seg_ok {e hb c1 cm r : Nat} {h : Nat → Nat} (hn : 200 ≤ n) (hhb : hb ≤ 3) (he : e < 401) (hc1 : c1 ≤ cm) (hcm : cm ≤ 400) (hr : r < 200) (h1 : h c1 = 1) : ∀ (k p : Nat) (s t : zσ), c1 - p = k → p ≤ c1 → CL G F W B C x y i D s t → t.1 (y + 26) e = nI c1 → s.1 (x + 24) r = nI cm → t.1 1132 69 = 0 → (∀ q, p ≤ q → q < c1 → tH G h q ∧ tC G x y (F i 0 (D - 1)) q s t) → PS hb (h p) s t → exO n i r e hb p c1 (h p) s t := by
  intro k
  induction k with
  | zero =>
    intro p s t hk hp hcl hto hcm2 h69 hcode hP
    obtain ⟨⟨hxx, hyy, -, -, -, r11, -⟩, -⟩ := hcl.1
    have c12 := gck12 hyy
    have ep : p = c1 := by omega
    subst ep
    refine ⟨s, t, scC_rf, scE_rf, fun _ _ => rfl, Or.inl ⟨fun j => by rw [Nat.sub_self]; rfl, by rw [hP.1, h1], h69, fun j => ?_⟩⟩
    have z4 : zin? (nI e) 401 = true := (zinN (by omega)).mpr he
    have pk := hP.2 0 (by omega)
    rw [Nat.sub_self, f243_13, r11, grd c12, if_pos z4, nxN (show e < 2 ^ 31 by omega), hto, if_neg Int32.lt_irrefl]
    unfold f243_267
    rw [if_pos h69, if_pos (by decide), x0_n, pk, Int32.toInt32_toInt64, Nat.add_zero]
  | succ k ih =>
    intro p s t hk hp hcl hto hcm2 h69 hcode hP
    obtain ⟨⟨hxx, hyy, -, r9, -, r11, -⟩, -⟩ := id hcl.1
    obtain ⟨k9, k6, k0⟩ := gck9 hxx
    obtain ⟨hH, hC⟩ := hcode p (Nat.le_refl _) (by omega)
    obtain ⟨s2, t2, o1, o2, o3, o4⟩ := ev_step (n := n) hn hcl he hto (by omega) (by omega) h69 hC hH hP hhb
    have zr : zin? (nI r) 200 = true := (zinN (by omega)).mpr hr
    have zp : zin? (nI p) 400 = true := (zinN (by omega)).mpr (by omega)
    have lp : nI p < nI cm := (nltN (by omega) (by omega)).mpr (by omega)
    have e24 : s.1 (x + 19 + 5) r = nI cm := hcm2
    have eC : ∀ j, f90_15 n (j + (c1 - p)) (1036 + 3 * i) (nI r) (nI p) s = yb1 (f91 n (1036 + 3 * i) (s.1 (x + 27) p) (s.1 (x + 28) p) s) fun v5 u4 => if v5 = (0 : Int32) then f90_15 n (j + (c1 - (p + 1))) (1036 + 3 * i) (nI r) (nI (p + 1)) u4 else some (v5, u4) := by
      intro j
      rw [show j + (c1 - p) = (j + (c1 - (p + 1))) + 1 by omega, f90_15, r9, grd k6, if_pos zr, nxN (show r < 2 ^ 31 by omega), e24, if_pos lp, grd k6, if_pos zp, grd k6, if_pos zp, nxN (show p < 2 ^ 31 by omega), nI_1]
    rcases o4 with ⟨a1, a2, a3, a4⟩ | ⟨w, w1, w2, a1, a2, a3⟩
    · have hto2 : t2.1 (y + 26) e = nI c1 := by rw [scM_a (scE_M o2) (by omega) (by omega) (by omega) (by omega)]; exact hto
      have hcm3 : s2.1 (x + 24) r = nI cm := by rw [scC_a o1 (by omega) (by omega) (by omega) (by omega)]; exact hcm2
      obtain ⟨s3, t3, b1, b2, b3, b4⟩ := ih (p + 1) s2 t2 (by omega) (by omega) (CL_sc o1 (scE_M o2) hcl) hto2 hcm3 a3 (fun q q1 q2 => ⟨(hcode q (by omega) q2).1, tC_sc hxx hyy o1 (scE_M o2) (hcode q (by omega) q2).2⟩) a4
      refine ⟨s3, t3, scC_tr o1 b1, scE_tr o2 b2, fun j hj => (b3 j hj).trans (o3 j hj), ?_⟩
      have eC2 : ∀ j, f90_15 n (j + (c1 - p)) (1036 + 3 * i) (nI r) (nI p) s = f90_15 n (j + (c1 - (p + 1))) (1036 + 3 * i) (nI r) (nI (p + 1)) s2 := fun j => by rw [eC j, a1, gy1, if_pos rfl]
      have eM2 : ∀ j, f243_13 n (j + (c1 - p) + 1) (nI i) (nI e) (nI (h p)) (nI p) t = f243_13 n (j + (c1 - (p + 1)) + 1) (nI i) (nI e) (nI (h (p + 1))) (nI (p + 1)) t2 := fun j => by
        rw [show j + (c1 - p) + 1 = (j + (c1 - (p + 1)) + 1) + 1 by omega, a2]
      rcases b4 with ⟨d1, d2, d3, d4⟩ | ⟨w, w1, w2, d1, d2, d3⟩
      · exact Or.inl ⟨fun j => by rw [eC2 j, d1 j], d2, d3, fun j => by rw [eM2 j, d4 j]⟩
      · exact Or.inr ⟨w, w1, w2, d1, fun j => by rw [eC2 j, d2 j], fun j => by rw [eM2 j, d3 j]⟩
    · have nz : ¬ nI w = 0 := fun q => by have := (neq0 (show w < 2 ^ 31 by omega)).mp q; omega
      refine ⟨s2, t2, o1, o2, o3, Or.inr ⟨w, w1, w2, a2, fun j => ?_, fun j => ?_⟩⟩
      · rw [eC j, a1, gy1, if_neg nz]
      · obtain ⟨h3, e3⟩ := a3 (j + (c1 - p))
        rw [e3, show j + (c1 - p) = (j + (c1 - p) - 1) + 1 by omega]
        exact m_done (c1 := c1) hyy (by rw [o2.1]; exact r11) he (by rw [a2]; exact nz) (by rw [scM_a (scE_M o2) (by omega) (by omega) (by omega) (by omega)]; exact hto)
/-- one whole expression: k stand on the stack ahead of it -/
theorem ev_one {e k c0 c1 cm r : Nat} (hn : 1000 ≤ n) (hk : k ≤ 3) (he : e < 401) (hc1 : c1 ≤ cm) (hcm : cm ≤ 400) (hr : r < 200) (hcl : CL G F W B C x y i D s t) (hfr : t.1 (y + 25) e = nI c0) (hto : t.1 (y + 26) e = nI c1) (hcm2 : s.1 (x + 24) r = nI cm) (h69 : t.1 1132 69 = 0) (hX : tX G x y (F i 0 (D - 1)) c0 c1 s t) (h16 : s.1 1007 16 = nI k) : ∃ s2 t2, scC s s2 ∧ scE t t2 ∧ (∀ j, j < k → s2.1 1033 j = s.1 1033 j) ∧ (((∀ j, f90_15 n (j + (c1 - c0)) (1036 + 3 * i) (nI r) (nI c0) s = f90_15 n j (1036 + 3 * i) (nI r) (nI c1) s2) ∧ s2.1 1007 16 = nI (k + 1) ∧ t2.1 1132 69 = 0 ∧ f243 n (nI i) (nI e) t = some (s2.1 1033 k, t2)) ∨ (∃ w, 1 ≤ w ∧ w < 20 ∧ t2.1 1132 69 = nI w ∧ (∀ j, f90_15 n (j + (c1 - c0)) (1036 + 3 * i) (nI r) (nI c0) s = some (nI w, s2)) ∧ f243 n (nI i) (nI e) t = some (0, t2))) := by
  obtain ⟨hl, hc4, h, h0, h1, hcode⟩ := hX
  obtain ⟨⟨hxx, hyy, -, r9, -, r11, -⟩, -⟩ := id hcl.1
  have c12 := gck12 hyy
  have z4 : zin? (nI e) 401 = true := (zinN (by omega)).mpr he
  obtain ⟨s2, t2, o1, o2, o3, o4⟩ := seg_ok (n := n) (r := r) (cm := cm) (by omega) hk he hc1 hcm hr h1 (c1 - c0) c0 s t rfl (by omega) hcl hto hcm2 h69 hcode ⟨by rw [h16, h0]; rfl, fun j hj => by omega⟩
  have eM : f243 n (nI i) (nI e) t = f243_13 n ((n - (c1 - c0) - 1) + (c1 - c0) + 1) (nI i) (nI e) (nI (h c0)) (nI c0) t := by
    unfold f243
    rw [r11, grd c12, if_pos z4, nxN (show e < 2 ^ 31 by omega), hfr, h0, show n - (c1 - c0) - 1 + (c1 - c0) + 1 = n by omega]
    rfl
  refine ⟨s2, t2, o1, o2, o3, ?_⟩
  rcases o4 with ⟨d1, d2, d3, d4⟩ | ⟨w, w1, w2, d1, d2, d3⟩
  · exact Or.inl ⟨d1, d2, d3, by rw [eM, d4]⟩
  · exact Or.inr ⟨w, w1, w2, d1, d2, by rw [eM, d3]⟩
end ZXP
