/-! the numbers of a statement's expressions; how a statement ends -/
section ZWK
variable {G W : Nat → Nat → Nat} {F : Nat → Nat → Nat → Nat} {B C x y n i D r : Nat} {s t : zσ}
/-- a task i that is at statement r -/
def aH (G : Nat → Nat → Nat) (F : Nat → Nat → Nat → Nat) (W : Nat → Nat → Nat) (B C x y i D r : Nat) (s t : zσ) : Prop := CL G F W B C x y i D s t ∧ r < G 0 0 ∧ G 1 r = F i 0 (D - 1) ∧ t.1 1237 (140 * i + (D - 1)) = nI r ∧ s.1 (1036 + 3 * i + 1) (F i 2 (D - 1)) = nI r
theorem aH_sc {s2 t2 : zσ} (h1 : scC s s2) (h2 : scM t t2) (h : aH G F W B C x y i D r s t) : aH G F W B C x y i D r s2 t2 := by
  have hi := CL_i h.1
  exact ⟨CL_sc h1 h2 h.1, h.2.1, h.2.2.1, by rw [scM_a h2 (by omega) (by omega) (by omega) (by omega)]; exact h.2.2.2.1, by rw [scC_a h1 (by omega) (by omega) (by omega) (by omega)]; exact h.2.2.2.2⟩
theorem aH_r (h : aH G F W B C x y i D r s t) : r < 200 := by
  have := h.1.1.2.1.1.2.2.1.2.2.1
  have := h.2.1
  omega
theorem f90_0 {v : Int32} (hx : x = 1060 ∨ x = 1096) (h9 : s.2.2 1007 9 = some (x + 19)) (hr : r < 200) (h23 : s.1 (x + 23) r = v) : f90 n (1036 + 3 * i) (nI r) s = f90_15 n n (1036 + 3 * i) (nI r) v (sI s 1007 16 0) := by
  obtain ⟨k9, k6, k0⟩ := gck9 hx
  have zr : zin? (nI r) 200 = true := (zinN (by omega)).mpr hr
  have e : s.1 (x + 19 + 4) r = v := h23
  simp (disch := omega) only [f90, zlet, ↓reduceIte, gI2, h9, grd k6, zr, nxN, hIo, e]
theorem f90_end {c j : Nat} (hx : x = 1060 ∨ x = 1096) (h9 : s.2.2 1007 9 = some (x + 19)) (hr : r < 200) (h24 : s.1 (x + 24) r = nI c) : f90_15 n (j + 1) (1036 + 3 * i) (nI r) (nI c) s = some (0, s) := by
  obtain ⟨k9, k6, k0⟩ := gck9 hx
  have zr : zin? (nI r) 200 = true := (zinN (by omega)).mpr hr
  have e : s.1 (x + 19 + 5) r = nI c := h24
  rw [f90_15, h9, grd k6, if_pos zr, nxN (show r < 2 ^ 31 by omega), e, if_neg Int32.lt_irrefl]
theorem scC_160 : scC s (sI s 1007 16 0) := scC_16
theorem work_0 (hn : 1000 ≤ n) (h : aH G F W B C x y i D r s t) (hE : tE G x y r 0 s t) : f90 n (1036 + 3 * i) (nI r) s = some (0, sI s 1007 16 0) := by
  have hr := aH_r h
  obtain ⟨⟨hxx, -, -, r9, -⟩, -⟩ := h.1.1
  obtain ⟨c, e1, e2, -⟩ := hE
  obtain ⟨m, rfl⟩ : ∃ m, n = m + 1 := ⟨n - 1, by omega⟩
  rw [f90_0 hxx r9 hr e1, f90_end (s := sI s 1007 16 0) hxx r9 hr (by rw [hIo (by omega)]; exact e2)]
theorem work_1 (hn : 1000 ≤ n) (h : aH G F W B C x y i D r s t) (h69 : t.1 1132 69 = 0) (hE : tE G x y r 1 s t) : ∃ s2 t2, scC s s2 ∧ scM t t2 ∧ ((f90 n (1036 + 3 * i) (nI r) s = some (0, s2) ∧ t2.1 1132 69 = 0 ∧ f243 n (nI i) (t.1 (y + 22) (4 * r)) t = some (s2.1 1033 0, t2)) ∨ (∃ w, 1 ≤ w ∧ w < 20 ∧ f90 n (1036 + 3 * i) (nI r) s = some (nI w, s2) ∧ t2.1 1132 69 = nI w ∧ f243 n (nI i) (t.1 (y + 22) (4 * r)) t = some (0, t2))) := by
  have hr := aH_r h
  obtain ⟨⟨hxx, hyy, -, r9, -⟩, -⟩ := id h.1.1
  obtain ⟨c, e1, e2, e3, e4⟩ := hE
  obtain ⟨e, he, m1, m2, m3, hX⟩ := e4 0 (by decide)
  rw [h.2.2.1] at hX
  have c01 : c 0 < c 1 := hX.1
  have h0 : CL G F W B C x y i D (sI s 1007 16 0) t := CL_sc scC_16 scM_rf h.1
  have hX0 : tX G x y (F i 0 (D - 1)) (c 0) (c 1) (sI s 1007 16 0) t := by
    obtain ⟨a1, a2, hh, a3, a4, a5⟩ := hX
    exact ⟨a1, a2, hh, a3, a4, fun p q1 q2 => ⟨(a5 p q1 q2).1, tC_sc hxx hyy scC_16 scM_rf (a5 p q1 q2).2⟩⟩
  obtain ⟨s2, t2, o1, o2E, -, o4⟩ := ev_one (n := n) (k := 0) (cm := c 1) (r := r) hn (by omega) he (Nat.le_refl _) e3 hr h0 m2 m3 (by rw [hIo (by omega)]; exact e2) h69 hX0 hIe
  have o2 := scE_M o2E
  have eC : f90 n (1036 + 3 * i) (nI r) s = f90_15 n ((n - (c 1 - c 0)) + (c 1 - c 0)) (1036 + 3 * i) (nI r) (nI (c 0)) (sI s 1007 16 0) := by
    rw [f90_0 hxx r9 hr e1, show n - (c 1 - c 0) + (c 1 - c 0) = n by omega]
  have em : t.1 (y + 22) (4 * r) = nI e := m1
  have o1' : scC s s2 := scC_tr scC_160 o1
  refine ⟨s2, t2, o1', o2, ?_⟩
  rw [em, eC]
  rcases o4 with ⟨d1, d2, d3, d4⟩ | ⟨w, w1, w2, d1, d2, d3⟩
  · refine Or.inl ⟨?_, d3, d4⟩
    rw [d1, show n - (c 1 - c 0) = (n - (c 1 - c 0) - 1) + 1 by omega, f90_end hxx (by rw [o1'.1]; exact r9) hr (by rw [scC_a o1' (by omega) (by omega) (by omega) (by omega)]; exact e2)]
  · exact Or.inr ⟨w, w1, w2, d2 _, d1, d3⟩
theorem work_2 (hn : 1000 ≤ n) (h : aH G F W B C x y i D r s t) (h69 : t.1 1132 69 = 0) (hE : tE G x y r 2 s t) : ∃ s2 t2, scC s s2 ∧ scM t t2 ∧ ((∃ t1, f90 n (1036 + 3 * i) (nI r) s = some (0, s2) ∧ scM t t1 ∧ t1.1 1132 69 = 0 ∧ t2.1 1132 69 = 0 ∧ f243 n (nI i) (t.1 (y + 22) (4 * r)) t = some (s2.1 1033 0, t1) ∧ f243 n (nI i) (t.1 (y + 22) (4 * r + 1)) t1 = some (s2.1 1033 1, t2)) ∨ (∃ w, 1 ≤ w ∧ w < 20 ∧ f90 n (1036 + 3 * i) (nI r) s = some (nI w, s2) ∧ t2.1 1132 69 = nI w ∧ (f243 n (nI i) (t.1 (y + 22) (4 * r)) t = some (0, t2) ∨ ∃ t1 v, scM t t1 ∧ t1.1 1132 69 = 0 ∧ f243 n (nI i) (t.1 (y + 22) (4 * r)) t = some (v, t1) ∧ f243 n (nI i) (t.1 (y + 22) (4 * r + 1)) t1 = some (0, t2)))) := by
  have hr := aH_r h
  obtain ⟨⟨hxx, hyy, -, r9, -⟩, -⟩ := id h.1.1
  obtain ⟨c, e1, e2, e3, e4⟩ := hE
  obtain ⟨e, he, m1, m2, m3, hX⟩ := e4 0 (by decide)
  obtain ⟨e', he', m1', m2', m3', hX'⟩ := e4 1 (by decide)
  rw [h.2.2.1] at hX hX'
  have tsc : ∀ {s1 t1 : zσ} {a b : Nat}, scC s s1 → scM t t1 → tX G x y (F i 0 (D - 1)) a b s t → tX G x y (F i 0 (D - 1)) a b s1 t1 := by
    intro s1 t1 a b q1 q2 hX
    obtain ⟨a1, a2, hh, a3, a4, a5⟩ := hX
    exact ⟨a1, a2, hh, a3, a4, fun p p1 p2 => ⟨(a5 p p1 p2).1, tC_sc hxx hyy q1 q2 (a5 p p1 p2).2⟩⟩
  have c01 : c 0 < c 1 := hX.1
  have c12 : c 1 < c 2 := hX'.1
  obtain ⟨s1, t1, o1, o2E, -, o4⟩ := ev_one (n := n) (k := 0) (c1 := c 1) (cm := c 2) (r := r) hn (by omega) he (by omega) e3 hr (CL_sc scC_160 scM_rf h.1) m2 m3 (by rw [hIo (by omega)]; exact e2) h69 (tsc scC_160 scM_rf hX) hIe
  have o2 := scE_M o2E
  have eC : ∀ j, j ≤ n → f90 n (1036 + 3 * i) (nI r) s = f90_15 n ((n - j) + j) (1036 + 3 * i) (nI r) (nI (c 0)) (sI s 1007 16 0) := fun j hj => by
    rw [f90_0 hxx r9 hr e1, show n - j + j = n by omega]
  have em : t.1 (y + 22) (4 * r) = nI e := m1
  have em' : t.1 (y + 22) (4 * r + 1) = nI e' := m1'
  have o1' : scC s s1 := scC_tr scC_160 o1
  rcases o4 with ⟨d1, d2, d3, d4⟩ | ⟨w, w1, w2, d1, d2, d3⟩
  · obtain ⟨s2, t2, p1, p2E, p3, p4⟩ := ev_one (n := n) (k := 1) (cm := c 2) (r := r) hn (by omega) he' (Nat.le_refl _) e3 hr (CL_sc o1' o2 h.1) (by rw [scM_a o2 (by omega) (by omega) (by omega) (by omega)]; exact m2') (by rw [scM_a o2 (by omega) (by omega) (by omega) (by omega)]; exact m3') (by rw [scC_a o1' (by omega) (by omega) (by omega) (by omega)]; exact e2) d3 (tsc o1' o2 hX') d2
    have p2 := scE_M p2E
    have p1' : scC s s2 := scC_tr o1' p1
    have eC2 : f90 n (1036 + 3 * i) (nI r) s = f90_15 n ((n - (c 1 - c 0) - (c 2 - c 1)) + (c 2 - c 1)) (1036 + 3 * i) (nI r) (nI (c 1)) s1 := by
      rw [eC (c 1 - c 0) (by omega), d1, show n - (c 1 - c 0) - (c 2 - c 1) + (c 2 - c 1) = n - (c 1 - c 0) by omega]
    refine ⟨s2, t2, p1', scM_tr o2 p2, ?_⟩
    rw [em, em', eC2]
    rcases p4 with ⟨f1, f2, f3, f4⟩ | ⟨w, w1, w2, f1, f2, f3⟩
    · refine Or.inl ⟨t1, ?_, o2, d3, f3, by rw [d4, p3 0 (by omega)], f4⟩
      rw [f1, show n - (c 1 - c 0) - (c 2 - c 1) = (n - (c 1 - c 0) - (c 2 - c 1) - 1) + 1 by omega, f90_end hxx (by rw [p1'.1]; exact r9) hr (by rw [scC_a p1' (by omega) (by omega) (by omega) (by omega)]; exact e2)]
    · exact Or.inr ⟨w, w1, w2, f2 _, f1, Or.inr ⟨t1, _, o2, d3, d4, f3⟩⟩
  · refine ⟨s1, t1, o1', o2, Or.inr ⟨w, w1, w2, ?_, d1, Or.inl (by rw [em]; exact d3)⟩⟩
    rw [eC (c 1 - c 0) (by omega), d2]
/-- perform, for both, up to where those that wait are served -/
def cP (n i r : Nat) (s : zσ) : Option zσ := yb1 (f90 n (1036 + 3 * i) (nI r) s) fun v4 u3 => if v4 = (0 : Int32) then yb1 (f97 n (1036 + 3 * i) (nI r) u3) fun v6 u5 => f89_41 n (1036 + 3 * i) (nI r) v6 u5 else f89_41 n (1036 + 3 * i) (nI r) v4 u3
def mP (n i r : Nat) (t : zσ) : Option zσ := yb0 (f242 n (nI i) (nI r) t) fun u6 => if (u6.1 1132 69) = (0 : Int32) then some u6 else f266 n (nI i) (nI r) u6
def pR (G : Nat → Nat → Nat) (B C x y : Nat) (a b : Option zσ) : Prop := ∃ s2 t2 F2 W2 B2 C2, a = some s2 ∧ b = some t2 ∧ RUN G F2 W2 B2 C2 x y s2 t2 ∧ B2 ≤ B + 1 ∧ C2 ≤ C + 80
/-- bounds that leave room -/
def bR (B C n : Nat) : Prop := 1000 ≤ n ∧ C < 800000000 ∧ B < 900000000
/-- a signal comes of it -/
theorem end_sig {w : Nat} (hb : bR B C n) (h : aH G F W B C x y i D r s t) (hw : 1 ≤ w ∧ w < 20) (h69 : t.1 1132 69 = nI w) : pR G B C x y (f89_41 n (1036 + 3 * i) (nI r) (nI w) s) (f266 n (nI i) (nI r) t) := by
  obtain ⟨s2, t2, F2, W2, C2, a1, a2, a3, a4, -, -⟩ := induce_ok (n := n) hw.2 hb.1 (by have := hb.2.1; omega) (by have := hb.2.2; omega) h.1 h.2.1 h.2.2.1 h69
  have q : (0 : Int32) < nI w := (nltN (a := 0) (by decide) (by omega)).mpr (by omega)
  refine ⟨s2, t2, F2, W2, B + 1, C2, ?_, a2, a3, by omega, by omega⟩
  unfold f89_41
  rw [if_pos q, a1]
  rfl
/-- it is done: both go onward -/
theorem end_on (hn : 1000 ≤ n) (hC : C < 800000000) (h : aH G F W B C x y i D r s t) (h69 : t.1 1132 69 = 0) : ∃ s2 t2 F2 W2 C2, f89_41 n (1036 + 3 * i) (nI r) 0 s = some s2 ∧ f237 n (nI i) t = some t2 ∧ t2.1 1132 69 = 0 ∧ RUN G F2 W2 B C2 x y s2 t2 ∧ C2 ≤ C + 1 := by
  obtain ⟨s2, t2, F2, W2, C2, a1, a2, a3, a4, -, a6, -⟩ := onward_ok (n := n) hn (by omega) h.1 h.2.1 h.2.2.1 h.2.2.2.1
  refine ⟨s2, t2, F2, W2, C2, ?_, a2, by rw [a6.2.2.2.2.2.2.2]; exact h69, a3, a4⟩
  unfold f89_41
  rw [if_neg (by decide), if_pos rfl, a1]
  rfl
/-- the kind of the statement, for both -/
theorem aH_k (h : aH G F W B C x y i D r s t) : (x = 1060 ∨ x = 1096) ∧ (y = 1134 ∨ y = 1170) ∧ s.2.2 1007 9 = some (x + 19) ∧ t.2.2 1132 11 = some y ∧ s.1 (x + 20) r = nI (zkd (G 10 r)) ∧ t.1 (y + 15) r = nI (G 10 r) ∧ tO G x y r s t ∧ zin? (nI r) 200 = true ∧ zin? (nI (4 * r)) 800 = true ∧ i < 8 := by
  have hr := aH_r h
  obtain ⟨⟨hxx, hyy, -, r9, -, r11, -⟩, ⟨-, -, -, hS⟩, -⟩ := id h.1.1
  obtain ⟨⟨-, -, w3, w4⟩, -, w6⟩ := hS r h.2.1
  exact ⟨hxx, hyy, r9, r11, w3, w4, w6, (zinN (by omega)).mpr hr, (zinN (by omega)).mpr (by omega), CL_i h.1⟩
end ZWK
