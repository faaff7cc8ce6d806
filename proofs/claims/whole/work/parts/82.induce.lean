/-! induce and reacts -/
section ZIN
variable {G W : Nat → Nat → Nat} {F : Nat → Nat → Nat → Nat} {B C x y n i D : Nat} {s t : zσ}
set_option maxHeartbeats 4000000 in
theorem react_loop {w : Nat} (hw : w < 20) (hn : 1000 ≤ n) (hC : C < 900000000) (h : CL G F W B C x y i D s t) : ∀ (d it j j2 : Nat), d < D → d < j → it + d < 1000 → d + 1 < j2 → mR G W B C x y i s t (f127_38 n j (1036 + 3 * i) (nI w) (nI (F i 2 d)) (nI (F i 0 d)) (nI it) s) (f266_86 n j2 (nI i) (nI w) (nI d) t) := by
  have hi := CL_i h
  obtain ⟨hx, ha, hb3, hu, c1, c2, c3, c4, c5, c6, c7, c8, c9, c10, c11⟩ := id h
  obtain ⟨⟨hxx, hyy, ⟨r8, -⟩, r9, r10, r11, rt⟩, ⟨hN, hDD, hB, hS⟩, -⟩ := id hx
  obtain ⟨k9, k6, k0⟩ := gck9 hxx
  have k12 := gck12 hyy
  have n7 := hN.2.2.1.2.2.2.2
  have n2 := hN.2.2.1.2.2.1
  have z8 : zin? (nI i) 8 = true := (zinN (by omega)).mpr hi
  -- a reaction that is there
  have found : ∀ (d r it : Nat) (r38 : Nat → Int32 → Int32 → Int32 → Int32 → zσ → Option zσ) (r86 : Int32 → Int32 → Int32 → zσ → Option zσ), d < D → r < G 0 1 → G 2 r = 4 → G 3 r = F i 0 d → mR G W B C x y i s t (f127_76 n r38 (1036 + 3 * i) (nI w) (nI (F i 2 d)) (nI (F i 0 d)) (nI it) (nI r) s) (f266_156 n r86 (nI i) (nI w) (nI d) (nI r) t) := by
    intro d r it r38 r86 hd hr hr4 hr3
    have em : ¬ nI r = -1 := fun q => (neqM (show r < 2 ^ 31 by omega)).mp q
    obtain ⟨s2, hs⟩ : ∃ s2, s2 = sI (sI (sI s 1030 5 (s.1 1030 5 + 1)) 1030 9 (s.1 1030 9 + (nI (F i 2 (D - 1)) - nI (F i 2 d)))) (1036 + 3 * i) 10 (nI (F i 2 d)) := ⟨_, rfl⟩
    have eC : f127_76 n r38 (1036 + 3 * i) (nI w) (nI (F i 2 d)) (nI (F i 0 d)) (nI it) (nI r) s = yb0 (f129 n (1036 + 3 * i) (nI r) s2) fun u4 => some u4 := by
      subst hs
      simp (disch := omega) only [f127_76, zlet, ↓reduceIte, em, hIo, hIk, c7]
    obtain ⟨t2, e2, o2, d2, p2, v2⟩ := m_popsTo (n := n) (G := G) (F := F) (r := nI r) (d := d) hi (D - 1 - d) (sI t 1132 25 (t.1 1132 25 + 1)) (n - (D - 1 - d)) (by rw [hIo (by decide), c4]; congr 1; omega) (by omega) (fun e he => by
      have hq := c9 e (by omega)
      unfold rK at hq ⊢
      simp (disch := omega) only [hIo]
      exact hq) (by rw [hIo (by decide), c8]; congr 2; omega)
    rw [show D - 1 - d + (n - (D - 1 - d)) = n by omega] at e2
    rw [show d + (D - 1 - d) = D - 1 by omega, hIk (by decide)] at v2
    obtain ⟨m, hm⟩ : ∃ m, n - (D - 1 - d) = m + 1 := ⟨n - (D - 1 - d) - 1, by omega⟩
    have hcl := CL_react (v := t2.1 (y + 13) r) h hd hr hr4 hr3 hs o2 d2 p2 v2
    have f0' : Fr F i d r i 0 d = r := by simp [Fr]
    have t11 : t2.2.2 1132 11 = some y := by rw [o2.1]; exact r11
    have nlt : ¬ nI d + 1 < nI (d + 1) := by rw [nI_1]; exact Int32.lt_irrefl
    have z11 : zin? (nI (140 * i + d)) 1120 = true := (zinN (by omega)).mpr (by omega)
    have z20 : zin? (nI r) 2000 = true := (zinN (by omega)).mpr (by omega)
    have y13 : (sI t2 1236 (140 * i + d) (nI r)).1 (y + 13) = t2.1 (y + 13) := hIo (by omega)
    have eM : f266_156 n r86 (nI i) (nI w) (nI d) (nI r) t = yb0 (f213 n (f219 n 4) (nI i) (sI (sI t2 1236 (140 * i + d) (nI r)) 1237 (140 * i + d) (t2.1 (y + 13) r))) fun u4 => some u4 := by
      unfold f266_156
      rw [if_neg em]
      show f266_174 n n (nI i) (nI d) (nI r) (sI t 1132 25 (t.1 1132 25 + 1)) = _
      rw [e2, hm, f266_174]
      simp (disch := omega) only [zlet, ↓reduceIte, z8, nxN, d2, nlt, nLmul, naddN, z11, gI2, t11, grd k12, z20, y13]
    obtain ⟨s3, t3, F2, W2, C2, a1, a2, a3, a4, a5, a6⟩ := open_core (b := r) hn hC hcl (by rw [Nat.add_sub_cancel, f0']) (by rw [Nat.add_sub_cancel, hIe]; simp (disch := omega) only [hIo])
    refine ⟨s3, t3, F2, W2, C2, by rw [eC, a1]; rfl, by rw [eM, a2]; rfl, a3, a4, oC_tr ?_ a5, oM_tr ?_ a6.1, a6.2⟩
    · subst hs
      exact ⟨rfl, fun a _ _ _ _ _ _ _ _ => by simp (disch := omega) only [hIo]⟩
    · refine oM_tr (t2 := sI t 1132 25 (t.1 1132 25 + 1)) ⟨rfl, fun _ _ => rfl, fun a _ _ _ => by simp (disch := omega) only [hIo], fun a j _ _ _ => by simp (disch := omega) only [hIx], fun a j d _ _ _ _ => by simp (disch := omega) only [hIx], fun j k _ _ => by simp (disch := omega) only [hIx], fun a _ _ => by simp (disch := omega) only [hIo], by simp (disch := omega) only [hIo, hIk]⟩ (oM_tr (sP_oM o2) ?_)
      exact ⟨rfl, fun _ _ => rfl, fun a _ _ _ => by simp (disch := omega) only [hIo], fun a j _ _ _ => by simp (disch := omega) only [hIx], fun a j d _ _ _ _ => by simp (disch := omega) only [hIx], fun j k _ _ => by simp (disch := omega) only [hIx], fun a _ _ => by simp (disch := omega) only [hIo], by simp (disch := omega) only [hIo, hIk]⟩
  intro d
  induction d with
  | zero =>
    intro it j j2 hd hj hit hj2
    obtain ⟨j, rfl⟩ : ∃ j0, j = j0 + 1 := ⟨j - 1, by omega⟩
    obtain ⟨j2, rfl⟩ : ∃ j0, j2 = j0 + 1 := ⟨j2 - 1, by omega⟩
    obtain ⟨j2, rfl⟩ : ∃ j0, j2 = j0 + 1 := ⟨j2 - 1, by omega⟩
    obtain ⟨hb0, e36, -, -, -, hc⟩ := c9 0 hd
    have zit : nI it < 1000 := (nltN (b := 1000) (by omega) (by decide)).mpr (by omega)
    have z11 : zin? (nI (140 * i + 0)) 1120 = true := (zinN (by omega)).mpr (by omega)
    have z40 : zin? (nI (20 * F i 0 0 + w)) 40000 = true := (zinN (by omega)).mpr (by omega)
    have z40' : zin? (nI (20 * F i 0 0)) 40000 = true := (zinN (by omega)).mpr (by omega)
    obtain ⟨rw1, rw2⟩ := c_react (n := n) (by omega) hw hb0 n7 hB
    obtain ⟨ro1, ro2⟩ := c_react (n := n) (w := 0) (by omega) (by omega) hb0 n7 hB
    obtain ⟨⟨-, -, -, lv1, lv12⟩, -, -, -, -, -, ⟨g7, -⟩, hon, -⟩ := hB (F i 0 0) hb0
    have on1 := hon w hw
    have on0 := hon 0 (by decide)
    have hN0 : ¬ nI 0 < 0 := nIM0 (by decide)
    have n20 : nI 0 = (0 : Int32) := rfl
    rw [Nat.add_zero] at on0 ro1 ro2
    rw [f127_38, f266_86, if_pos zit, r10, grd k0, if_neg hN0]
    simp only [nLmul, naddN, z11, ↓reduceIte, zlet, nxN (show 140 * i + 0 < 2 ^ 31 by omega), e36, r11, grd k12, z40, z40', nxN (show 20 * F i 0 0 + w < 2 ^ 31 by omega), nxN (show 20 * F i 0 0 < 2 ^ 31 by omega)]
    rcases on1 with ⟨g1, o1⟩ | ⟨r, g1, q1, o1, q2, q3⟩
    · rw [rw1 g1, gy1, if_pos rfl, r10, grd k0, o1, if_pos rfl]
      rcases on0 with ⟨g0, o0⟩ | ⟨r, g0, q1, o0, q2, q3⟩
      · rw [show f44 n (x + 29) (nI (F i 0 0)) 0 s = _ from ro1 g0, gy1, o0]
        -- the task ends
        have ht : G 2 (G 7 (F i 0 0)) = 0 := by
          rcases hc with ⟨-, -, q, -⟩ | ⟨q, -⟩ | ⟨q, -⟩
          · exact q
          · omega
          · omega
        obtain ⟨a, k, -, -, -, -, t6, t7, t8, -⟩ := hb3
        have hz : zL F i D = F i 2 (D - 1) := by
          obtain ⟨d, rfl⟩ : ∃ d, D = d + 1 := ⟨D - 1, by omega⟩
          rfl
        obtain ⟨s2, t2, F2, W2, C2, x1, x2, x3, x4, x5, x6⟩ := ends_ok (n := n) (m := 3) (k := k) (D := D) (by omega) (Or.inl rfl) hx c1 hC ha t6 t7 t8 c4 c6 c9 (by rw [hz]; exact c7) (by rw [hz]; exact c8) c2
        have z7 : zin? (nI (G 7 (F i 0 0))) 700 = true := (zinN (by omega)).mpr (by omega)
        have e30 : s.1 (x + 29 + 1) (G 7 (F i 0 0)) = 0 := by
          have := (hB _ g7).1.1
          rw [ht] at this
          exact this
        refine ⟨s2, t2, F2, W2, C2, ?_, ?_, x3, x4, x5, x6⟩
        · unfold f127_76
          rw [if_pos rfl, show (0 : Int32) = nI 0 from rfl, c_strip hxx r10 n7 hB 12 (F i 0 0) n 0 (by omega) hb0 (by omega) (by omega)]
          simp (disch := omega) only [f127_170, ↓reduceIte, r10, grd k0, z7, nxN, e30, nof0, x1, gy0]
        · unfold f266_156
          rw [if_pos rfl, f266_86, if_pos (show nI 0 + -1 < 0 by decide), x2]
          rfl
      · rw [show f44 n (x + 29) (nI (F i 0 0)) 0 s = _ from ro2 r g0, gy1, o0]
        exact found 0 r it _ _ hd q1 q2 q3
    · have em : ¬ nI r = -1 := fun q => (neqM (show r < 2 ^ 31 by omega)).mp q
      rw [rw2 r g1, gy1, if_neg em, o1, if_neg em]
      exact found 0 r it _ _ hd q1 q2 q3
  | succ d ih =>
    intro it j j2 hd hj hit hj2
    obtain ⟨j, rfl⟩ : ∃ j0, j = j0 + 1 := ⟨j - 1, by omega⟩
    obtain ⟨j2, rfl⟩ : ∃ j0, j2 = j0 + 1 := ⟨j2 - 1, by omega⟩
    obtain ⟨hb0, e36, -, lv8, -, hc⟩ := c9 (d + 1) hd
    have zit : nI it < 1000 := (nltN (b := 1000) (by omega) (by decide)).mpr (by omega)
    have z11 : zin? (nI (140 * i + (d + 1))) 1120 = true := (zinN (by omega)).mpr (by omega)
    have z40 : zin? (nI (20 * F i 0 (d + 1) + w)) 40000 = true := (zinN (by omega)).mpr (by omega)
    have z40' : zin? (nI (20 * F i 0 (d + 1))) 40000 = true := (zinN (by omega)).mpr (by omega)
    obtain ⟨rw1, rw2⟩ := c_react (n := n) (by omega) hw hb0 n7 hB
    obtain ⟨ro1, ro2⟩ := c_react (n := n) (w := 0) (by omega) (by omega) hb0 n7 hB
    obtain ⟨⟨-, -, -, lv1, lv12⟩, -, -, -, -, -, ⟨g7, -⟩, hon, -⟩ := hB (F i 0 (d + 1)) hb0
    have on1 := hon w hw
    have on0 := hon 0 (by decide)
    have hN0 : ¬ nI (d + 1) < 0 := nIM0 (by omega)
    rw [Nat.add_zero] at on0 ro1 ro2
    rw [f127_38, f266_86, if_pos zit, r10, grd k0, if_neg hN0]
    simp only [nLmul, naddN, z11, ↓reduceIte, zlet, nxN (show 140 * i + (d + 1) < 2 ^ 31 by omega), e36, r11, grd k12, z40, z40', nxN (show 20 * F i 0 (d + 1) + w < 2 ^ 31 by omega), nxN (show 20 * F i 0 (d + 1) < 2 ^ 31 by omega)]
    rcases on1 with ⟨g1, o1⟩ | ⟨r, g1, q1, o1, q2, q3⟩
    · rw [rw1 g1, gy1, if_pos rfl, r10, grd k0, o1, if_pos rfl]
      rcases on0 with ⟨g0, o0⟩ | ⟨r, g0, q1, o0, q2, q3⟩
      · rw [show f44 n (x + 29) (nI (F i 0 (d + 1))) 0 s = _ from ro1 g0, gy1, o0]
        have z7 : zin? (nI (G 7 (F i 0 (d + 1)))) 700 = true := (zinN (by omega)).mpr (by omega)
        have e30 : s.1 (x + 29 + 1) (G 7 (F i 0 (d + 1))) = nI (G 2 (G 7 (F i 0 (d + 1)))) := (hB _ g7).1.1
        have e31 : s.1 (x + 29 + 2) (G 7 (F i 0 (d + 1))) = nI (G 3 (G 7 (F i 0 (d + 1)))) := (hB _ g7).1.2.2.1
        obtain ⟨e1, e2, e3, e4, e5⟩ := c10 d (by omega)
        have zr : zin? (nI (F i 1 d)) 200 = true := (zinN (by omega)).mpr (by omega)
        have e26 : s.1 (x + 19 + 7) (F i 1 d) = nI (F i 0 d) := by
          have := (hS _ e1).1.2.1
          rw [e2] at this
          exact this
        have eM : f266_156 n (f266_86 n j2) (nI i) (nI w) (nI (d + 1)) (-1) t = f266_86 n j2 (nI i) (nI w) (nI d) t := by
          unfold f266_156
          rw [if_pos rfl, naddM]
        have eC : f127_76 n (f127_38 n j) (1036 + 3 * i) (nI w) (nI (F i 2 (d + 1))) (nI (F i 0 (d + 1))) (nI it) (-1) s = f127_38 n j (1036 + 3 * i) (nI w) (nI (F i 2 d)) (nI (F i 0 d)) (nI (it + 1)) s := by
          unfold f127_76
          rw [if_pos rfl, show (0 : Int32) = nI 0 from rfl, c_strip hxx r10 n7 hB 12 (F i 0 (d + 1)) n 0 (by omega) hb0 (by omega) (by omega)]
          rcases hc with ⟨q, -⟩ | ⟨-, q1, q2, q3, q4⟩ | ⟨-, q1, q2, q3, q4⟩
          · omega
          · rw [Nat.add_sub_cancel] at q2
            have n1 : nI (G 2 (G 7 (F i 0 (d + 1)))) = 1 := by rw [q1]; rfl
            have lm : nI (F i 2 (d + 1)) + -1 = nI (F i 2 d) := by rw [q2, naddM]
            have zl : zin? (nI (F i 2 d)) 9 = true := (zinN (by omega)).mpr (by omega)
            simp (disch := omega) only [f127_170, f127_246, zlet, ↓reduceIte, r10, grd k0, z7, nxN, e30, n1, show ¬ (1 : Int32) = 0 by decide, r9, grd k6, lm, zl, e4 (Or.inr q2), zr, e26, nI_1]
          · rw [Nat.add_sub_cancel] at q2 q4
            have n0 : ¬ nI (G 2 (G 7 (F i 0 (d + 1)))) = 0 := fun q => by have := (neq0 (show G 2 (G 7 (F i 0 (d + 1))) < 2 ^ 31 by omega)).mp q; omega
            have n1 : ¬ nI (G 2 (G 7 (F i 0 (d + 1)))) = 1 := fun q => by have := (neq1 (show G 2 (G 7 (F i 0 (d + 1))) < 2 ^ 31 by omega)).mp q; omega
            rw [q2]
            simp (disch := omega) only [f127_170, f127_246, zlet, ↓reduceIte, r10, grd k0, z7, nxN, e30, e31, n0, n1, r9, grd k6, ← q4, zr, e26, nI_1]
        rw [eM, eC]
        exact ih (it + 1) j j2 (by omega) (by omega) (by omega) (by omega)
      · rw [show f44 n (x + 29) (nI (F i 0 (d + 1))) 0 s = _ from ro2 r g0, gy1, o0]
        exact found (d + 1) r it _ _ hd q1 q2 q3
    · have em : ¬ nI r = -1 := fun q => (neqM (show r < 2 ^ 31 by omega)).mp q
      rw [rw2 r g1, gy1, if_neg em, o1, if_neg em]
      exact found (d + 1) r it _ _ hd q1 q2 q3
end ZIN
