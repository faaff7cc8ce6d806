/-! the acts: do, an item is set, make, prevent -/
section ZAG
variable {G W : Nat → Nat → Nat} {F : Nat → Nat → Nat → Nat} {B C x y n i D r : Nat} {s t : zσ}
/-- behind a signal the rest of the numbers is 0 -/
theorem do_rest {m : Nat} (hy : y = 1134 ∨ y = 1170) (hr : r < 200) (hi : i < 8) (hm : m ≤ 3) : ∀ (q k : Nat) (t : zσ), m - k = q → k ≤ m → t.2.2 1132 11 = some y → t.1 (y + 20) r = nI m → ¬ t.1 1132 69 = 0 → ∃ t2, scM t t2 ∧ t2.1 1132 69 = t.1 1132 69 ∧ ∀ j, f252_2 n (j + q + 1) (nI i) (nI r) (nI k) t = some t2 := by
  intro q
  have c12 := gck12 hy
  have zr : zin? (nI r) 200 = true := (zinN (by omega)).mpr hr
  induction q with
  | zero =>
    intro k t hq hk h11 h20 h69
    refine ⟨t, scM_rf, rfl, fun j => ?_⟩
    have e : k = m := by omega
    subst e
    rw [f252_2, h11, grd c12, if_pos zr, nxN (show r < 2 ^ 31 by omega), h20, if_neg Int32.lt_irrefl, if_neg h69]
    unfold f252_80
    rw [if_neg h69]
  | succ q ih =>
    intro k t hq hk h11 h20 h69
    have z3 : zin? (nI k) 3 = true := (zinN (by omega)).mpr (by omega)
    have lk : nI k < nI m := (nltN (by omega) (by omega)).mpr (by omega)
    have sc : scM t (sI t 1246 k 0) := ⟨rfl, fun _ _ => rfl, fun a k _ _ _ _ => hIx (by omega)⟩
    obtain ⟨t2, a1, a2, a3⟩ := ih (k + 1) (sI t 1246 k 0) (by omega) (by omega) h11 (by rw [hIo (by omega)]; exact h20) (by rw [hIo (by decide)]; exact h69)
    refine ⟨t2, scM_tr sc a1, by rw [a2, hIo (by decide)], fun j => ?_⟩
    rw [show j + (q + 1) + 1 = (j + q + 1) + 1 by omega, f252_2, h11, grd c12, if_pos zr, nxN (show r < 2 ^ 31 by omega), h20, if_pos lk, if_neg h69]
    unfold f252_49
    rw [if_pos z3, nxN (show k < 2 ^ 31 by omega), nI_1]
    exact a3 j
/-- the numbers of a do -/
theorem do_loop {m : Nat} {c : Nat → Nat} (hn : 1000 ≤ n) (hm : m ≤ 3) (hc : c m ≤ 400) : ∀ (q k : Nat) (s t : zσ), m - k = q → k ≤ m → aH G F W B C x y i D r s t → t.1 1132 69 = 0 → s.1 1007 16 = nI k → t.1 (y + 20) r = nI m → s.1 (x + 24) r = nI (c m) → (∀ j, j < k → s.1 1033 j = t.1 1246 j) → (∀ j, k ≤ j → j < m → ∃ e, e < 401 ∧ t.1 (y + 22) (4 * r + j) = nI e ∧ t.1 (y + 25) e = nI (c j) ∧ t.1 (y + 26) e = nI (c (j + 1)) ∧ tX G x y (F i 0 (D - 1)) (c j) (c (j + 1)) s t) → c k ≤ c m ∧ ∃ s2 t2, scC s s2 ∧ scM t t2 ∧ (((∀ j, f90_15 n (j + (c m - c k) + 1) (1036 + 3 * i) (nI r) (nI (c k)) s = some (0, s2)) ∧ t2.1 1132 69 = 0 ∧ (∀ j, j < m → s2.1 1033 j = t2.1 1246 j) ∧ (∀ j, f252_2 n (j + q + 1) (nI i) (nI r) (nI k) t = f252_2 n (j + 1) (nI i) (nI r) (nI m) t2)) ∨ (∃ w, 1 ≤ w ∧ w < 20 ∧ t2.1 1132 69 = nI w ∧ (∀ j, f90_15 n (j + (c m - c k) + 1) (1036 + 3 * i) (nI r) (nI (c k)) s = some (nI w, s2)) ∧ (∀ j, f252_2 n (j + q + 1) (nI i) (nI r) (nI k) t = some t2))) := by
  intro q
  induction q with
  | zero =>
    intro k s t hq hk h h69 h16 h20 h24 hv hX
    have hr := aH_r h
    obtain ⟨hxx, hyy, r9, r11, w3, w4, w6, zr, z8, hi⟩ := aH_k h
    have e : k = m := by omega
    subst e
    refine ⟨Nat.le_refl _, s, t, scC_rf, scM_rf, Or.inl ⟨fun j => ?_, h69, hv, fun j => rfl⟩⟩
    rw [Nat.sub_self]
    exact f90_end hxx r9 hr h24
  | succ q ih =>
    intro k s t hq hk h h69 h16 h20 h24 hv hX
    have hr := aH_r h
    obtain ⟨hxx, hyy, r9, r11, w3, w4, w6, zr, z8, hi⟩ := aH_k h
    have k12 := gck12 hyy
    obtain ⟨e, he, x1, x2, x3, xX⟩ := hX k (Nat.le_refl _) (by omega)
    have ck : c k < c (k + 1) := xX.1
    have mono : ∀ d j, j + d = m → k + 1 ≤ j → c j ≤ c m := by
      intro d
      induction d with
      | zero => intro j h1 h2; rw [show j = m by omega]; exact Nat.le_refl _
      | succ d ihd =>
        intro j h1 h2
        obtain ⟨e, -, -, -, -, hx2⟩ := hX j (by omega) (by omega)
        have := hx2.1
        have := ihd (j + 1) (by omega) (by omega)
        omega
    have cm := mono (m - (k + 1)) (k + 1) (by omega) (Nat.le_refl _)
    obtain ⟨s1, t1, o1, o2E, o3, o4⟩ := ev_one (n := n) (k := k) (c1 := c (k + 1)) (cm := c m) (r := r) hn (by omega) he cm hc hr h.1 x2 x3 h24 h69 xX h16
    have o2 := scE_M o2E
    have z3 : zin? (nI k) 3 = true := (zinN (by omega)).mpr (by omega)
    have z80 : zin? (nI (4 * r + k)) 800 = true := (zinN (by omega)).mpr (by omega)
    have lk : nI k < nI m := (nltN (by omega) (by omega)).mpr (by omega)
    have eM : ∀ j v u, f243 n (nI i) (nI e) t = some (v, u) → f252_2 n (j + (q + 1) + 1) (nI i) (nI r) (nI k) t = f252_2 n (j + q + 1) (nI i) (nI r) (nI (k + 1)) (sI u 1246 k v) := by
      intro j v u hu
      rw [show j + (q + 1) + 1 = (j + q + 1) + 1 by omega, f252_2, r11, grd k12, if_pos zr, nxN (show r < 2 ^ 31 by omega), h20, if_pos lk, if_pos h69, grd k12, nLmul, naddN, if_pos z80, nxN (show 4 * r + k < 2 ^ 31 by omega), x1, hu, gy1]
      unfold f252_49
      rw [if_pos z3, nxN (show k < 2 ^ 31 by omega), nI_1]
      rfl
    have sc46 : ∀ (u : zσ) (v : Int32), scM u (sI u 1246 k v) := fun u v => ⟨rfl, fun _ _ => rfl, fun a k _ _ _ _ => hIx (by omega)⟩
    refine ⟨by omega, ?_⟩
    rcases o4 with ⟨d1, d2, d3, d4⟩ | ⟨w, w1, w2, d1, d2, d3⟩
    · have o5 : scM t (sI t1 1246 k (s1.1 1033 k)) := scM_tr o2 (sc46 _ _)
      have tt : ∀ a, a ≠ 1246 → a ≠ 1247 → a ≠ 1247 → a ≠ 1132 → (sI t1 1246 k (s1.1 1033 k)).1 a = t.1 a := fun a q1 q2 q3 q4 => scM_a o5 q1 q2 q3 q4
      obtain ⟨-, s2, t2, b1, b2, b3⟩ := ih (k + 1) s1 (sI t1 1246 k (s1.1 1033 k)) (by omega) (by omega) (aH_sc o1 o5 h) (by rw [hIo (by decide)]; exact d3) d2 (by rw [tt _ (by omega) (by omega) (by omega) (by omega)]; exact h20) (by rw [scC_a o1 (by omega) (by omega) (by omega) (by omega)]; exact h24) (fun j hj => by
        by_cases q2 : j = k
        · subst q2; rw [hIe]
        · rw [hIk q2, o3 j (by omega), hv j (by omega), o2E.2.2 1246 j (by omega)]) (fun j q1 q2 => by
        obtain ⟨e2, y1, y2, y3, y4, a1, a2, hh, a3, a4, a5⟩ := hX j (by omega) q2
        exact ⟨e2, y1, by rw [tt _ (by omega) (by omega) (by omega) (by omega)]; exact y2, by rw [tt _ (by omega) (by omega) (by omega) (by omega)]; exact y3, by rw [tt _ (by omega) (by omega) (by omega) (by omega)]; exact y4, a1, a2, hh, a3, a4, fun p p1 p2 => ⟨(a5 p p1 p2).1, tC_sc hxx hyy o1 o5 (a5 p p1 p2).2⟩⟩)
      have eC : ∀ j, f90_15 n (j + (c m - c k) + 1) (1036 + 3 * i) (nI r) (nI (c k)) s = f90_15 n (j + (c m - c (k + 1)) + 1) (1036 + 3 * i) (nI r) (nI (c (k + 1))) s1 := fun j => by
        rw [show j + (c m - c k) + 1 = (j + (c m - c (k + 1)) + 1) + (c (k + 1) - c k) by omega, d1]
      refine ⟨s2, t2, scC_tr o1 b1, scM_tr o5 b2, ?_⟩
      rcases b3 with ⟨f1, f2, f3, f4⟩ | ⟨w, w1, w2, f1, f2, f3⟩
      · exact Or.inl ⟨fun j => by rw [eC j, f1 j], f2, f3, fun j => by rw [eM j _ _ d4, f4 j]⟩
      · exact Or.inr ⟨w, w1, w2, f1, fun j => by rw [eC j, f2 j], fun j => by rw [eM j _ _ d4, f3 j]⟩
    · have nz : ¬ nI w = 0 := fun q => by have := (neq0 (show w < 2 ^ 31 by omega)).mp q; omega
      have o5 : scM t (sI t1 1246 k 0) := scM_tr o2 (sc46 _ _)
      obtain ⟨t2, a1, a2, a3⟩ := do_rest (n := n) hyy hr hi hm q (k + 1) (sI t1 1246 k 0) (by omega) (by omega) (by rw [gI2, o2.1]; exact r11) (by rw [scM_a o5 (by omega) (by omega) (by omega) (by omega)]; exact h20) (by rw [hIo (by decide), d1]; exact nz)
      refine ⟨s1, t2, o1, scM_tr o5 a1, Or.inr ⟨w, w1, w2, by rw [a2, hIo (by decide)]; exact d1, fun j => ?_, fun j => by rw [eM j _ _ d3, a3 j]⟩⟩
      rw [show j + (c m - c k) + 1 = (j + (c m - c (k + 1)) + 1) + (c (k + 1) - c k) by omega, d2]
end ZAG
