/-! a proc gives back v -/
section ZRT
variable {G W : Nat → Nat → Nat} {F : Nat → Nat → Nat → Nat} {B C x y n i : Nat} {s t : zσ}
set_option maxHeartbeats 4000000 in
theorem proc_ret {d b it j j2 : Nat} {v : Int32} (m : Nat) (hn : 200 ≤ n) (hC : C < 900000000) (h : CL G F W B C x y i (d + 1) s t) (hd0 : 0 < d) (hb : b < G 0 1) (g : G 2 b = 1) (h7 : b = G 7 (F i 0 d)) (hj : 108 ≤ j) (hit : it ≤ 10) (hj2 : d + 1 < j2) : mR G W B C x y i s t (f130_9 n (j + 1) (1036 + 3 * i) (nI b) v (nI it) s) (yb1 (f215 n (nI i) t) fun _ u3 => yb0 (f216 n (nI i) v u3) fun u14 => f213_0 n (f219 n (m + 1)) j2 (nI i) u14) := by
  have hi := CL_i h
  obtain ⟨hx, ha, hb1, hu, c1, c2, c3, c4, c5, c6, c7, c8, c9, c10, c11⟩ := id h
  obtain ⟨⟨hxx, hyy, ⟨r8, -⟩, r9, r10, r11, rt⟩, ⟨hN, hDD, hB, hS⟩, -⟩ := id hx
  obtain ⟨k9, k6, k0⟩ := gck9 hxx
  have k12 := gck12 hyy
  have n7 := hN.2.2.1.2.2.2.2
  have n2 := hN.2.2.1.2.2.1
  obtain ⟨⟨b30, b4, b31, l1, l12⟩, -, q0, q1, q23, q4, ⟨-, s4, -, -⟩, -⟩ := hB b hb
  have e30 : s.1 (x + 29 + 1) b = nI (G 2 b) := b30
  have e31 : s.1 (x + 29 + 2) b = nI (G 3 b) := b31
  have z7 : zin? (nI b) 700 = true := (zinN (by omega)).mpr (by omega)
  have zit : nI it < 1000 := (nltN (b := 1000) (by omega) (by decide)).mpr (by omega)
  have l8 := (c9 d (by omega)).2.2.2.1
  have z9 : zin? (nI (F i 2 d)) 9 = true := (zinN (by omega)).mpr (by omega)
  have z8 : zin? (nI i) 8 = true := (zinN (by omega)).mpr hi
  obtain ⟨-, -, g7, -⟩ := q1 g
  have hk : G 2 (G 7 (F i 0 d)) = 1 := by rw [← h7]; exact g
  rw [Nat.add_sub_cancel] at c7 c8
  obtain ⟨t1, e1, hc1, g1, g2, g3, g4, o1⟩ := CL_popB (n := n) (by omega) h hk
  have oc1 : oC i s (sI (sI s (1036 + 3 * i) 10 (nI (F i 2 (d - 1)))) 1030 9 (s.1 1030 9 + 1)) := ⟨rfl, fun a _ _ _ _ _ _ _ _ => by simp (disch := omega) only [hIo]⟩
  have hL1 : F i 2 (d - 1) ≤ 8 := by omega
  have zL1 : zin? (nI (F i 2 (d - 1))) 9 = true := (zinN (by omega)).mpr (by omega)
  have hQ := c10 (d - 1) (by omega)
  have r2 : F i 1 (d - 1) < 200 := by have := hQ.1; omega
  have zr : zin? (nI (F i 1 (d - 1))) 200 = true := (zinN (by omega)).mpr r2
  generalize hs1 : sI (sI s (1036 + 3 * i) 10 (nI (F i 2 (d - 1)))) 1030 9 (s.1 1030 9 + 1) = s1 at hc1 oc1
  have s1at : s1.1 (1036 + 3 * i + 1) (F i 2 (d - 1)) = nI (F i 1 (d - 1)) := by
    subst hs1
    simp (disch := omega) only [hIo]
    exact g3
  have s1L : s1.1 (1036 + 3 * i) 10 = nI (F i 2 (d - 1)) := hc1.2.2.2.2.2.2.2.2.2.2.1
  obtain ⟨hx1, -⟩ := id hc1
  obtain ⟨⟨-, -, v8, v9, v10, v11, -⟩, ⟨-, -, hB1, hS1⟩, -⟩ := id hx1
  obtain ⟨⟨w1, w2, w3, w4⟩, w5, w6⟩ := hS1 (F i 1 (d - 1)) hQ.1
  have ez : s.1 (1036 + 3 * i) 10 - 1 = nI (F i 2 (d - 1)) := by
    rw [c7, ← g2]
    exact nI_pred _
  -- the assignment
  have hasg : ∃ s2 t2, f98 n (1036 + 3 * i) (s1.1 (x + 19 + 2) (F i 1 (d - 1))) v s1 = some s2 ∧ f216 n (nI i) v t1 = f216_39 n (nI i) (nI (F i 1 (d - 1))) t2 ∧ CL G F W B C x y i d s2 t2 ∧ t2.1 1237 = t1.1 1237 ∧ oC i s1 s2 ∧ oM i t1 t2 := by
    have zd : zin? (nI (140 * i + (d - 1))) 1120 = true := (zinN (by omega)).mpr (by omega)
    have top := m_top2 (n := n) hi hc1.2.2.2.2.2.2.2.1 (by omega) (by omega)
    have hd0 : (s1.1 (x + 21) (F i 1 (d - 1)) = -1 ∧ t1.1 (y + 17) (F i 1 (d - 1)) = -1) ∨ uV G y (G 1 (F i 1 (d - 1))) t1 (s1.1 (x + 21) (F i 1 (d - 1))) (t1.1 (y + 17) (F i 1 (d - 1))) := (tO_3 g4 w6).1
    have top' : t1.1 1237 (140 * i + (d - 1)) = nI (F i 1 (d - 1)) := g1
    rcases hd0 with ⟨m1, m2⟩ | hv
    · refine ⟨s1, t1, ?_, ?_, hc1, rfl, oC_rf, oM_rf⟩
      · rw [show s1.1 (x + 19 + 2) (F i 1 (d - 1)) = -1 from m1]
        simp only [f98, ↓reduceIte, show (-1 : Int32) < 8 by decide, show (-1 : Int32) < 0 by decide]
      · simp (disch := omega) only [f216, zlet, ↓reduceIte, top, gy1, zd, nxN, top', v11, grd k12, zr, m2]
    · rw [hQ.2.1] at hv
      obtain ⟨s2, t2, y1, y2, y3, y4, y5, y6, y7⟩ := CL_assign v hn hc1 hv
      refine ⟨s2, t2, y1, ?_, y3, y4, y6, y7⟩
      have nm : ¬ t1.1 (y + 17) (F i 1 (d - 1)) = -1 := by
        obtain ⟨u, -, hu1, e, -⟩ := hv
        rw [e]
        exact fun q => (neqM (show u < 2 ^ 31 by omega)).mp q
      simp (disch := omega) only [f216, zlet, ↓reduceIte, top, gy1, zd, nxN, top', v11, grd k12, zr, nm, y2, gy0]
  obtain ⟨s2, t2, y1, y2, hc2, y4, oc2, om2⟩ := hasg
  obtain ⟨hx2, -, -, -, u1, u2, u3, u4, u5, u6, u7, u8, u9, u10, u11⟩ := id hc2
  obtain ⟨⟨-, -, -, v9', v10', v11', -⟩, ⟨-, -, hB2, hS2⟩, -⟩ := id hx2
  obtain ⟨⟨w1', w2', w3', w4'⟩, w5', -⟩ := hS2 (F i 1 (d - 1)) hQ.1
  have zd : zin? (nI (140 * i + (d - 1))) 1120 = true := (zinN (by omega)).mpr (by omega)
  -- the class's step
  have eC : f130_9 n (j + 1) (1036 + 3 * i) (nI b) v (nI it) s = f130_143 n (f130_9 n j) (1036 + 3 * i) 0 (nI it) (nI (F i 1 (d - 1))) s2 := by
    rw [f130_9]
    have n1 : nI 1 = 1 := rfl
    simp (disch := omega) only [zlet, ↓reduceIte, zit, r10, grd k0, z7, nxN, e30, e31, g, n1, show ¬ (1 : Int32) = 0 by decide, show ¬ (1 : Int32) = 3 by decide, show ¬ (1 : Int32) = 4 by decide, ez, hIo, hs1, s1L, zL1, s1at, v9, grd k6, zr, y1, gy0]
  have eM2 : (yb1 (f215 n (nI i) t) fun _ u3 => yb0 (f216 n (nI i) v u3) fun u14 => f213_0 n (f219 n (m + 1)) j2 (nI i) u14) = f213_0 n (f219 n (m + 1)) j2 (nI i) (sI t2 1237 (140 * i + (d - 1)) (t2.1 (y + 16) (F i 1 (d - 1)))) := by
    rw [e1, gy1, y2, f216_39, m_top2 hi u4 u5 u6, gy1, v11', grd k12, if_pos zr, if_pos zd, nxN (show F i 1 (d - 1) < 2 ^ 31 by omega), nxN (show 140 * i + (d - 1) < 2 ^ 31 by omega)]
    rfl
  obtain ⟨cn1, cn2⟩ := c_next (n := n) (G := G) (r9 := f130_9 n j) (v5 := 0) (it := it) hi hxx v9' r2 u7 hL1 w2'
  rw [eC, eM2]
  refine mR_tr (oC_tr oc1 oc2) (oM_tr o1 om2) ?_
  rcases w5' with ⟨-, f1, f2⟩ | ⟨q, -, f0, f3, f1, f2⟩
  · rw [cn1 f1, f2]
    have hb' := hB2 (G 1 (F i 1 (d - 1))) w1'
    refine mR_tr oC_rf (oM_hand (by omega)) (close_ok (n := n) m hn hC 108 d (G 1 (F i 1 (d - 1))) (it + 1) j j2 s2 _ ?_ (CL_hand hc2) w1' (by rw [hQ.2.1]) hIe (by omega) (by omega) (by omega))
    have := hb'.1.2.2.2.2
    omega
  · obtain ⟨j2, rfl⟩ : ∃ j0, j2 = j0 + 1 := ⟨j2 - 1, by omega⟩
    rw [cn2 q (by omega) f1, f2, m_settle1 (D := d) (r := q) hi (by rw [hIo (by decide)]; exact u4) (by omega) (by omega) hIe (by omega)]
    exact ⟨_, _, _, W, C, rfl, rfl, CL_done (r := q) (CL_at (CL_hand hc2)) f0 (by rw [f3, hQ.2.1]) hIe hIe, by omega, oC_at, oM_hand (by omega), by rw [hIo (by omega)]; exact zAc_w hc2.2.2.2.2.2.2.1⟩
end ZRT
