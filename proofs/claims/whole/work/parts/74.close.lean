/-! a block is over: close and settle -/
section ZCL
variable {G W : Nat → Nat → Nat} {F : Nat → Nat → Nat → Nat} {B C x y n i : Nat} {s t : zσ}
/-- behind statement r of the last frame: the class's part when there is a next one -/
theorem c_next {r9 : Nat → Int32 → Int32 → Int32 → zσ → Option zσ} {v5 : Int32} {r it L : Nat} (hi : i < 8) (hx : x = 1060 ∨ x = 1096) (h9 : s.2.2 1007 9 = some (x + 19)) (hr : r < 200) (hL : s.1 (1036 + 3 * i) 10 = nI L) (hL8 : L ≤ 8) (hbl : s.1 (x + 26) r = nI (G 1 r)) : (s.1 (x + 25) r = -1 → f130_143 n r9 (1036 + 3 * i) v5 (nI it) (nI r) s = r9 (1036 + 3 * i) (nI (G 1 r)) v5 (nI (it + 1)) s) ∧ (∀ q, q < 200 → s.1 (x + 25) r = nI q → f130_143 n r9 (1036 + 3 * i) v5 (nI it) (nI r) s = some (sI s (1036 + 3 * i + 1) L (nI q))) := by
  obtain ⟨c9, c6, c0⟩ := gck9 hx
  have z2 : zin? (nI r) 200 = true := (zinN (by omega)).mpr hr
  have z9 : zin? (nI L) 9 = true := (zinN (by omega)).mpr (by omega)
  have e7 : s.1 (x + 19 + 7) r = nI (G 1 r) := hbl
  constructor
  · intro h
    have e6 : s.1 (x + 19 + 6) r = -1 := h
    simp (disch := omega) only [f130_143, f130_189, zlet, ↓reduceIte, h9, grd c6, z2, nxN, e6, e7, nI_1]
  · intro q hq h
    have e6 : s.1 (x + 19 + 6) r = nI q := h
    have e6' : ¬ nI q = -1 := fun e => (neqM (show q < 2 ^ 31 by omega)).mp e
    simp (disch := omega) only [f130_143, f130_189, zlet, ↓reduceIte, h9, grd c6, z2, nxN, e6, e6', hL, z9]
theorem oC_at {k : Nat} {v : Int32} : oC i s (sI s (1036 + 3 * i + 1) k v) := ⟨rfl, fun a _ _ _ _ _ _ _ _ => by simp (disch := omega) only [hIo]⟩
theorem oM_hand {d : Nat} {v : Int32} (hd : d < 140) : oM i t (sI t 1237 (140 * i + d) v) := ⟨rfl, fun _ _ => rfl, fun a _ _ _ => by simp (disch := omega) only [hIo], fun a j _ _ _ => by simp (disch := omega) only [hIx], fun a j d _ _ _ _ => by simp (disch := omega) only [hIx], fun j k _ _ => by simp (disch := omega) only [hIx], fun a _ _ => by simp (disch := omega) only [hIo], by simp (disch := omega) only [hIo, hIk]⟩
/-- the result of a move -/
def mR (G W : Nat → Nat → Nat) (B C x y i : Nat) (s t : zσ) (a b : Option zσ) : Prop := ∃ s2 t2 F2 W2 C2, a = some s2 ∧ b = some t2 ∧ RUN G F2 W2 B C2 x y s2 t2 ∧ C2 ≤ C + 1 ∧ oC i s s2 ∧ oM i t t2 ∧ ¬ (s2.1 (1036 + 3 * i) 3 = 3 ∨ s2.1 (1036 + 3 * i) 3 = 4)
theorem mR_tr {s1 t1 : zσ} {a b : Option zσ} (h1 : oC i s s1) (h2 : oM i t t1) (h : mR G W B C x y i s1 t1 a b) : mR G W B C x y i s t a b := by
  obtain ⟨s2, t2, F2, W2, C2, a1, a2, a3, a4, a5, a6⟩ := h
  exact ⟨s2, t2, F2, W2, C2, a1, a2, a3, a4, oC_tr h1 a5, oM_tr h2 a6.1, a6.2⟩
/-- the reference has set the statement of the last frame to what follows r -/
def mH (i D : Nat) (t : zσ) (v : Int32) : zσ := sI t 1237 (140 * i + (D - 1)) v
set_option maxHeartbeats 4000000 in
theorem close_ok (m : Nat) (hn : 200 ≤ n) (hC : C < 900000000) : ∀ (M D b it j j2 : Nat) (s t : zσ), 12 * F i 2 (D - 1) + G 4 b ≤ M → CL G F W B C x y i D s t → b < G 0 1 → G 7 b = G 7 (F i 0 (D - 1)) → t.1 1237 (140 * i + (D - 1)) = -1 → M ≤ j → it + M ≤ 1000 → D < j2 → mR G W B C x y i s t (f130_9 n j (1036 + 3 * i) (nI b) 0 (nI it) s) (f213_0 n (f219 n (m + 1)) j2 (nI i) t) := by
  intro M
  induction M with
  | zero =>
    intro D b it j j2 s t hM h hb
    obtain ⟨⟨-, -, -, l1, -⟩, -⟩ := h.1.2.1.2.2.1 b hb
    omega
  | succ M ih =>
    intro D b it j j2 s t hM h hb h7 hh hj hit hj2
    have hi := CL_i h
    obtain ⟨hx, ha, hb1, hu, c1, c2, c3, c4, c5, c6, c7, c8, c9, c10, c11⟩ := id h
    obtain ⟨⟨hxx, hyy, ⟨r8, -⟩, r9, r10, r11, rt⟩, ⟨hN, hDD, hB, hS⟩, -⟩ := id hx
    obtain ⟨k9, k6, k0⟩ := gck9 hxx
    have k12 := gck12 hyy
    have n7 := hN.2.2.1.2.2.2.2
    have n2 := hN.2.2.1.2.2.1
    obtain ⟨⟨b30, b4, b31, l1, l12⟩, -, q0, q1, q23, q4, ⟨-, s4, -, -⟩, -⟩ := hB b hb
    have e30 : s.1 (x + 29 + 1) b = nI (G 2 b) := b30
    have e31 : s.1 (x + 29 + 2) b = nI (G 3 b) := b31
    obtain ⟨j, rfl⟩ : ∃ j0, j = j0 + 1 := ⟨j - 1, by omega⟩
    obtain ⟨j2, rfl⟩ : ∃ j0, j2 = j0 + 1 := ⟨j2 - 1, by omega⟩
    have z7 : zin? (nI b) 700 = true := (zinN (by omega)).mpr (by omega)
    have zit : nI it < 1000 := (nltN (b := 1000) (by omega) (by decide)).mpr (by omega)
    have l8 := (c9 (D - 1) (by omega)).2.2.2.1
    have z9 : zin? (nI (F i 2 (D - 1))) 9 = true := (zinN (by omega)).mpr (by omega)
    have z8 : zin? (nI i) 8 = true := (zinN (by omega)).mpr hi
    have zD : zin? (nI (140 * i + (D - 1))) 1120 = true := (zinN (by omega)).mpr (by omega)
    have pD : (0 : Int32) < nI D := (nltN (a := 0) (by decide) (by omega)).mpr c5
    -- the reference's step at the head of its loop
    have eM : f213_0 n (f219 n (m + 1)) (j2 + 1) (nI i) t = yb1 (f215 n (nI i) t) fun v4 u3 => if v4 = (0 : Int32) then (if zin? (nI i) 8 = true then (if (0 : Int32) < (u3.1 1235 i) then zrd 12 (u3.2.2 1132 11) fun a5 => yb1 (f214 n (nI i) u3) fun v7 u6 => if zin? v7 1120 = true then (if zin? (u6.1 1237 (nx v7)) 200 = true then (if (u6.1 (a5 + 15) (nx (u6.1 1237 (nx v7)))) = (6 : Int32) then f213_0 n (f219 n (m + 1)) j2 (nI i) u6 else yb1 (f214 n (nI i) u6) fun v9 u8 => zrd 12 (u8.2.2 1132 11) fun a10 => yb1 (f214 n (nI i) u8) fun v12 u11 => if zin? v12 1120 = true then (if zin? (u11.1 1237 (nx v12)) 200 = true then (if zin? v9 1120 = true then zlet (sI u11 1237 (nx v9) (u11.1 (a10 + 16) (nx (u11.1 1237 (nx v12))))) fun u13 => f213_0 n (f219 n (m + 1)) j2 (nI i) u13 else none) else none) else none) else none) else none else f213_0 n (f219 n (m + 1)) j2 (nI i) u3) else none) else yb0 (f216 n (nI i) (0 : Int32) u3) fun u14 => f213_0 n (f219 n (m + 1)) j2 (nI i) u14 := by
      rw [f213_0, if_pos z8, nxN (show i < 2 ^ 31 by omega), c4, if_pos pD, m_top2 hi c4 c5 c6, gy1, if_pos zD, nxN (show 140 * i + (D - 1) < 2 ^ 31 by omega), hh, if_pos rfl]
    have hG2 : G 2 b = 0 ∨ G 2 b = 1 ∨ G 2 b = 2 ∨ G 2 b = 3 ∨ G 2 b = 4 := by omega
    rcases hG2 with g | g | g | g | g
    · -- a task
      obtain ⟨-, -, g7, -⟩ := q0 g
      obtain ⟨-, -, -, -, -, hc⟩ := c9 (D - 1) (by omega)
      rw [← h7, g7, g] at hc
      have hD1 : D = 1 := by
        rcases hc with ⟨q, -⟩ | ⟨-, q, -⟩ | ⟨-, q, -⟩
        · omega
        · omega
        · omega
      subst hD1
      have lv0 : F i 2 0 = 0 := by
        rcases hc with ⟨-, q, -⟩ | ⟨-, q, -⟩ | ⟨-, q, -⟩
        · exact q
        · omega
        · omega
      obtain ⟨t1, e1, o1, d1, p1, v1⟩ := m_pop (n := n) (D := 0) hi c4 (by omega) (c9 0 (by omega)) c8
      have f0 : t.1 1238 (140 * i + 0) = 0 := by
        rcases hc with ⟨-, -, -, -, q⟩ | ⟨-, q, -⟩ | ⟨-, q, -⟩
        · exact q
        · omega
        · omega
      rw [f0] at e1
      rw [lv0] at v1 c7
      have v2 : t1.1 1132 27 = t.1 1132 27 := by
        rw [v1]
        show t.1 1132 27 + nI 0 - nI 0 = _
        rw [Int32.add_sub_cancel]
      -- the run, with the frame gone
      have hx1 : RUNx i G F W B C x y s t1 := by
        obtain ⟨p1, p2, p3, p4, p5, p6⟩ := gP_of hx
        have mm : ∀ a, a ≠ 1235 → a ≠ 1234 → a ≠ 1132 → t1.1 a = t.1 a := fun a q1 q2 q3 => funext fun k => o1.2 a k (by omega) (by omega) (by omega)
        have m32 : ∀ k, t1.1 1132 k = t.1 1132 k := fun k => by
          by_cases q : k = 27
          · rw [q]; exact v2
          · exact o1.2 _ k (by omega) (by omega) (by omega)
        refine RUNx_gP hi (Or.inl rfl) hx oC_rf (sP_oM o1) (fun j _ _ => sG1_rf) ⟨?_, ?_, ?_, ?_, ?_, ?_⟩
        · unfold rA at p1 ⊢; simp only [m32, mm 1248 (by decide) (by decide) (by decide)]; exact p1
        · unfold rB at p2 ⊢; simp only [m32, mm 1221 (by decide) (by decide) (by decide), mm 1222 (by decide) (by decide) (by decide), mm 1223 (by decide) (by decide) (by decide), mm 1224 (by decide) (by decide) (by decide)]; exact p2
        · unfold rV at p3 ⊢; rw [mm 1207 (by decide) (by decide) (by decide)]; exact p3
        · unfold rH at p4 ⊢; rw [mm 1240 (by decide) (by decide) (by decide), mm 1241 (by decide) (by decide) (by decide), mm 1242 (by decide) (by decide) (by decide), mm 1243 (by decide) (by decide) (by decide), mm 1244 (by decide) (by decide) (by decide)]; exact p4
        · unfold rC at p5 ⊢; simp only [m32]; exact p5
        · unfold rE at p6 ⊢; simp only [m32]; exact p6
      have kk : kT i s s t t1 := ⟨fun _ _ => rfl, fun a q1 q2 => o1.2 a i (by omega) (by omega) (by omega)⟩
      obtain ⟨a, k, -, t3, t4, -, t6, t7, t8, -⟩ := kT_1 kk hb1
      obtain ⟨s2, t2, F2, W2, C2, x1, x2, x3, x4, x5, x6⟩ := ends_ok (n := n) (m := m) (k := k) (D := 0) hn (Or.inl rfl) hx1 c1 hC (kT_a kk ha) t6 t7 t8 d1 (by omega) (fun d hd => by omega) c7 p1 c2
      refine ⟨s2, t2, F2, W2, C2, ?_, ?_, x3, x4, x5, oM_tr (sP_oM o1) x6.1, x6.2⟩
      · rw [f130_9]
        simp (disch := omega) only [zlet, ↓reduceIte, zit, r10, grd k0, z7, nxN, e30, e31, g, nof0, x1, gy0]
      · obtain ⟨j2, rfl⟩ : ∃ j0, j2 = j0 + 1 := ⟨j2 - 1, by omega⟩
        have a0 : ¬ t1.1 1225 i = 0 := by
          rw [t4, ← t3]
          exact zAc_0 c3
        have d1' : t1.1 1235 i = 0 := d1
        rw [eM, e1, gy1, if_pos rfl, if_pos z8, d1', if_neg (by decide), f213_0, if_pos z8, nxN (show i < 2 ^ 31 by omega), d1', if_neg (by decide), f213_103, if_pos z8, nxN (show i < 2 ^ 31 by omega), d1', if_pos rfl, if_pos z8, if_neg a0, x2]
        rfl
    · -- a proc
      obtain ⟨-, -, g7, -⟩ := q1 g
      have hk : G 2 (G 7 (F i 0 (D - 1))) = 1 := by rw [← h7, g7]; exact g
      have hD1 : 1 < D := by
        obtain ⟨-, -, -, -, -, hc⟩ := c9 (D - 1) (by omega)
        rcases hc with ⟨-, -, q, -⟩ | ⟨q, -⟩ | ⟨q, -⟩ <;> omega
      obtain ⟨d, rfl⟩ : ∃ d, D = d + 1 := ⟨D - 1, by omega⟩
      rw [Nat.add_sub_cancel] at hk hM h7 hh l8 z9 zD c7 c8
      obtain ⟨t1, e1, hc1, g1, g2, g3, g4, o1⟩ := CL_popB (n := n) (by omega) h hk
      have oc1 : oC i s (sI (sI s (1036 + 3 * i) 10 (nI (F i 2 (d - 1)))) 1030 9 (s.1 1030 9 + 1)) := ⟨rfl, fun a _ _ _ _ _ _ _ _ => by simp (disch := omega) only [hIo]⟩
      have hL1 : F i 2 (d - 1) ≤ 8 := by omega
      have zL1 : zin? (nI (F i 2 (d - 1))) 9 = true := (zinN (by omega)).mpr (by omega)
      have hQ := c10 (d - 1) (by omega)
      have r2 : F i 1 (d - 1) < 200 := by have := hQ.1; omega
      have zr : zin? (nI (F i 1 (d - 1))) 200 = true := (zinN (by omega)).mpr r2
      generalize hs1 : sI (sI s (1036 + 3 * i) 10 (nI (F i 2 (d - 1)))) 1030 9 (s.1 1030 9 + 1) = s1 at hc1 oc1
      have s1at : s1.1 (1036 + 3 * i + 1) (F i 2 (d - 1)) = nI (F i 1 (d - 1)) := by
        subst hs1
        simp (disch := omega) only [hIo]
        exact g3
      have s1L : s1.1 (1036 + 3 * i) 10 = nI (F i 2 (d - 1)) := hc1.2.2.2.2.2.2.2.2.2.2.1
      obtain ⟨hx1, -⟩ := id hc1
      obtain ⟨⟨-, -, v8, v9, v10, v11, -⟩, ⟨-, -, hB1, hS1⟩, -⟩ := id hx1
      obtain ⟨⟨w1, w2, w3, w4⟩, w5, w6⟩ := hS1 (F i 1 (d - 1)) hQ.1
      have ez : s.1 (1036 + 3 * i) 10 - 1 = nI (F i 2 (d - 1)) := by
        rw [c7, ← g2]
        exact nI_pred _
      -- the assignment
      have hasg : ∃ s2 t2, f98 n (1036 + 3 * i) (s1.1 (x + 19 + 2) (F i 1 (d - 1))) 0 s1 = some s2 ∧ f216 n (nI i) 0 t1 = f216_39 n (nI i) (nI (F i 1 (d - 1))) t2 ∧ CL G F W B C x y i d s2 t2 ∧ t2.1 1237 = t1.1 1237 ∧ oC i s1 s2 ∧ oM i t1 t2 := by
        have zd : zin? (nI (140 * i + (d - 1))) 1120 = true := (zinN (by omega)).mpr (by omega)
        have top := m_top2 (n := n) hi hc1.2.2.2.2.2.2.2.1 (by omega) (by omega)
        have hd0 : (s1.1 (x + 21) (F i 1 (d - 1)) = -1 ∧ t1.1 (y + 17) (F i 1 (d - 1)) = -1) ∨ uV G y (G 1 (F i 1 (d - 1))) t1 (s1.1 (x + 21) (F i 1 (d - 1))) (t1.1 (y + 17) (F i 1 (d - 1))) := (tO_3 g4 w6).1
        have top' : t1.1 1237 (140 * i + (d - 1)) = nI (F i 1 (d - 1)) := g1
        rcases hd0 with ⟨m1, m2⟩ | hv
        · refine ⟨s1, t1, ?_, ?_, hc1, rfl, oC_rf, oM_rf⟩
          · rw [show s1.1 (x + 19 + 2) (F i 1 (d - 1)) = -1 from m1]
            simp only [f98, ↓reduceIte, show (-1 : Int32) < 8 by decide, show (-1 : Int32) < 0 by decide]
          · simp (disch := omega) only [f216, zlet, ↓reduceIte, top, gy1, zd, nxN, top', v11, grd k12, zr, m2]
        · rw [hQ.2.1] at hv
          obtain ⟨s2, t2, y1, y2, y3, y4, y5, y6, y7⟩ := CL_assign 0 hn hc1 hv
          refine ⟨s2, t2, y1, ?_, y3, y4, y6, y7⟩
          have nm : ¬ t1.1 (y + 17) (F i 1 (d - 1)) = -1 := by
            obtain ⟨u, -, hu1, e, -⟩ := hv
            rw [e]
            exact fun q => (neqM (show u < 2 ^ 31 by omega)).mp q
          simp (disch := omega) only [f216, zlet, ↓reduceIte, top, gy1, zd, nxN, top', v11, grd k12, zr, nm, y2, gy0]
      obtain ⟨s2, t2, y1, y2, hc2, y4, oc2, om2⟩ := hasg
      obtain ⟨hx2, -, -, -, u1, u2, u3, u4, u5, u6, u7, u8, u9, u10, u11⟩ := id hc2
      obtain ⟨⟨-, -, -, v9', v10', v11', -⟩, ⟨-, -, hB2, hS2⟩, -⟩ := id hx2
      obtain ⟨⟨w1', w2', w3', w4'⟩, w5', -⟩ := hS2 (F i 1 (d - 1)) hQ.1
      have zd : zin? (nI (140 * i + (d - 1))) 1120 = true := (zinN (by omega)).mpr (by omega)
      -- the class's step
      have eC : f130_9 n (j + 1) (1036 + 3 * i) (nI b) 0 (nI it) s = f130_143 n (f130_9 n j) (1036 + 3 * i) 0 (nI it) (nI (F i 1 (d - 1))) s2 := by
        rw [f130_9]
        have n1 : nI 1 = 1 := rfl
        simp (disch := omega) only [zlet, ↓reduceIte, zit, r10, grd k0, z7, nxN, e30, e31, g, n1, show ¬ (1 : Int32) = 0 by decide, show ¬ (1 : Int32) = 3 by decide, show ¬ (1 : Int32) = 4 by decide, ez, hIo, hs1, s1L, zL1, s1at, v9, grd k6, zr, y1, gy0]
      have eM2 : f213_0 n (f219 n (m + 1)) (j2 + 1) (nI i) t = f213_0 n (f219 n (m + 1)) j2 (nI i) (sI t2 1237 (140 * i + (d - 1)) (t2.1 (y + 16) (F i 1 (d - 1)))) := by
        rw [eM, e1, gy1, if_neg (by decide), y2, f216_39, m_top2 hi u4 u5 u6, gy1, v11', grd k12, if_pos zr, if_pos zd, nxN (show F i 1 (d - 1) < 2 ^ 31 by omega), nxN (show 140 * i + (d - 1) < 2 ^ 31 by omega)]
        rfl
      obtain ⟨cn1, cn2⟩ := c_next (n := n) (G := G) (r9 := f130_9 n j) (v5 := 0) (it := it) hi hxx v9' r2 u7 hL1 w2'
      rw [eC, eM2]
      refine mR_tr (oC_tr oc1 oc2) (oM_tr o1 om2) ?_
      rcases w5' with ⟨-, f1, f2⟩ | ⟨q, -, f0, f3, f1, f2⟩
      · rw [cn1 f1, f2]
        have hb' := hB2 (G 1 (F i 1 (d - 1))) w1'
        refine mR_tr oC_rf (oM_hand (by omega)) (ih d (G 1 (F i 1 (d - 1))) (it + 1) j j2 s2 _ ?_ (CL_hand hc2) w1' (by rw [hQ.2.1]) hIe (by omega) (by omega) (by omega))
        have := hb'.1.2.2.2.2
        omega
      · obtain ⟨j2, rfl⟩ : ∃ j0, j2 = j0 + 1 := ⟨j2 - 1, by omega⟩
        rw [cn2 q (by omega) f1, f2, m_settle1 (D := d) (r := q) hi (by rw [hIo (by decide)]; exact u4) (by omega) (by omega) hIe (by omega)]
        exact ⟨_, _, _, W, C, rfl, rfl, CL_done (r := q) (CL_at (CL_hand hc2)) f0 (by rw [f3, hQ.2.1]) hIe hIe, by omega, oC_at, oM_hand (by omega), by rw [hIo (by omega)]; exact zAc_w hc2.2.2.2.2.2.2.1⟩
    · -- an if
      obtain ⟨g0, g4, g5, g7, g10⟩ := q23 (Or.inl g)
      have hk : G 2 (G 7 (F i 0 (D - 1))) = 2 := by rw [← h7, g7]; exact g
      have hD1 : 1 < D := by
        obtain ⟨-, -, -, -, -, hc⟩ := c9 (D - 1) (by omega)
        rcases hc with ⟨-, -, q, -⟩ | ⟨q, -⟩ | ⟨q, -⟩ <;> omega
      obtain ⟨d, rfl⟩ : ∃ d, D = d + 1 := ⟨D - 1, by omega⟩
      rw [Nat.add_sub_cancel] at hk hM h7 hh l8 z9 zD c7 c8
      obtain ⟨t1, e1, hc1, g1, g2, g3, o1⟩ := CL_popA (n := n) (by omega) h (Or.inl hk)
      rw [← h7, g7] at g1
      have hQ := c10 (d - 1) (by omega)
      have r2 : F i 1 (d - 1) < 200 := by have := hQ.1; omega
      have zr : zin? (nI (F i 1 (d - 1))) 200 = true := (zinN (by omega)).mpr r2
      obtain ⟨hx1, -, -, -, u1, u2, u3, u4, u5, u6, u7, u8, u9, u10, u11⟩ := id hc1
      obtain ⟨⟨-, -, v8, v9, v10, v11, -⟩, ⟨-, -, hB1, hS1⟩, -⟩ := id hx1
      obtain ⟨⟨w1, w2, w3, w4⟩, w5, -⟩ := hS1 (F i 1 (d - 1)) hQ.1
      have zd : zin? (nI (140 * i + (d - 1))) 1120 = true := (zinN (by omega)).mpr (by omega)
      have pd : (0 : Int32) < nI d := (nltN (a := 0) (by decide) (by omega)).mpr (by omega)
      have top := m_top2 (n := n) hi u4 (by omega) (by omega)
      have act5 : t1.1 (y + 15) (F i 1 (d - 1)) = 5 := by
        rw [w4, g1, g10, g]
        rfl
      have eC : f130_9 n (j + 1) (1036 + 3 * i) (nI b) 0 (nI it) s = f130_143 n (f130_9 n j) (1036 + 3 * i) 0 (nI it) (nI (F i 1 (d - 1))) s := by
        rw [f130_9]
        have n1 : nI 2 = 2 := rfl
        simp (disch := omega) only [zlet, ↓reduceIte, zit, r10, grd k0, z7, nxN, e30, e31, g, n1, show ¬ (2 : Int32) = 0 by decide, show ¬ (2 : Int32) = 3 by decide, show ¬ (2 : Int32) = 4 by decide, show ¬ (2 : Int32) = 1 by decide, g1]
      have eM2 : f213_0 n (f219 n (m + 1)) (j2 + 1) (nI i) t = f213_0 n (f219 n (m + 1)) j2 (nI i) (sI t1 1237 (140 * i + (d - 1)) (t1.1 (y + 16) (F i 1 (d - 1)))) := by
        rw [eM, e1, gy1, if_pos rfl, if_pos z8, u4, if_pos pd, v11, grd k12, top, gy1, if_pos zd, nxN (show 140 * i + (d - 1) < 2 ^ 31 by omega), g2, if_pos zr, nxN (show F i 1 (d - 1) < 2 ^ 31 by omega), act5, if_neg (by decide), top, gy1, v11, grd k12, top, gy1, if_pos zd, nxN (show 140 * i + (d - 1) < 2 ^ 31 by omega), g2, if_pos zr, if_pos zd, nxN (show F i 1 (d - 1) < 2 ^ 31 by omega)]
        rfl
      obtain ⟨cn1, cn2⟩ := c_next (n := n) (G := G) (r9 := f130_9 n j) (v5 := 0) (it := it) hi hxx v9 r2 u7 (by omega) w2
      rw [eC, eM2]
      refine mR_tr oC_rf o1 ?_
      rcases w5 with ⟨-, f1, f2⟩ | ⟨q, -, f0, f3, f1, f2⟩
      · rw [cn1 f1, f2]
        refine mR_tr oC_rf (oM_hand (by omega)) (ih d (G 1 (F i 1 (d - 1))) (it + 1) j j2 s _ ?_ (CL_hand hc1) w1 (by rw [hQ.2.1]) hIe (by omega) (by omega) (by omega))
        rw [g1]
        omega
      · obtain ⟨j2, rfl⟩ : ∃ j0, j2 = j0 + 1 := ⟨j2 - 1, by omega⟩
        rw [cn2 q (by omega) f1, f2, m_settle1 (D := d) (r := q) hi (by rw [hIo (by decide)]; exact u4) (by omega) (by omega) hIe (by omega)]
        exact ⟨_, _, _, W, C, rfl, rfl, CL_done (r := q) (CL_at (CL_hand hc1)) f0 (by rw [f3, hQ.2.1]) hIe hIe, by omega, oC_at, oM_hand (by omega), by rw [hIo (by omega)]; exact zAc_w hc1.2.2.2.2.2.2.1⟩
    · -- a while
      obtain ⟨g0, g4, g5, g7, g10⟩ := q23 (Or.inr g)
      have hk : G 2 (G 7 (F i 0 (D - 1))) = 3 := by rw [← h7, g7]; exact g
      have hD1 : 1 < D := by
        obtain ⟨-, -, -, -, -, hc⟩ := c9 (D - 1) (by omega)
        rcases hc with ⟨-, -, q, -⟩ | ⟨q, -⟩ | ⟨q, -⟩ <;> omega
      obtain ⟨d, rfl⟩ : ∃ d, D = d + 1 := ⟨D - 1, by omega⟩
      rw [Nat.add_sub_cancel] at hk hM h7 hh l8 z9 zD c7 c8
      obtain ⟨t1, e1, hc1, g1, g2, g3, o1⟩ := CL_popA (n := n) (by omega) h (Or.inr hk)
      rw [← h7, g7] at g1
      have hQ := c10 (d - 1) (by omega)
      have r2 : F i 1 (d - 1) < 200 := by have := hQ.1; omega
      have zr : zin? (nI (F i 1 (d - 1))) 200 = true := (zinN (by omega)).mpr r2
      obtain ⟨hx1, -, -, -, u1, u2, u3, u4, u5, u6, u7, u8, u9, u10, u11⟩ := id hc1
      obtain ⟨⟨-, -, v8, v9, v10, v11, -⟩, ⟨-, -, hB1, hS1⟩, -⟩ := id hx1
      obtain ⟨⟨w1, w2, w3, w4⟩, w5, -⟩ := hS1 (F i 1 (d - 1)) hQ.1
      have zd : zin? (nI (140 * i + (d - 1))) 1120 = true := (zinN (by omega)).mpr (by omega)
      have pd : (0 : Int32) < nI d := (nltN (a := 0) (by decide) (by omega)).mpr (by omega)
      have top := m_top2 (n := n) hi u4 (by omega) (by omega)
      have act6 : t1.1 (y + 15) (F i 1 (d - 1)) = 6 := by
        rw [w4, g1, g10, g]
        rfl
      obtain ⟨j2, rfl⟩ : ∃ j0, j2 = j0 + 1 := ⟨j2 - 1, by omega⟩
      refine ⟨sI s (1036 + 3 * i + 1) (F i 2 (d - 1)) (nI (F i 1 (d - 1))), t1, _, W, C, ?_, ?_, CL_done (r := F i 1 (d - 1)) (CL_at hc1) hQ.1 hQ.2.1 g2 hIe, by omega, oC_at, o1, by rw [hIo (by omega)]; exact zAc_w hc1.2.2.2.2.2.2.1⟩
      · rw [f130_9]
        have n1 : nI 3 = 3 := rfl
        simp (disch := omega) only [zlet, ↓reduceIte, zit, r10, grd k0, z7, nxN, e30, e31, g, n1, show ¬ (3 : Int32) = 0 by decide, c7, z9, g1, g3]
      · rw [eM, e1, gy1, if_pos rfl, if_pos z8, u4, if_pos pd, v11, grd k12, top, gy1, if_pos zd, nxN (show 140 * i + (d - 1) < 2 ^ 31 by omega), g2, if_pos zr, nxN (show F i 1 (d - 1) < 2 ^ 31 by omega), act6, if_pos rfl]
        exact m_settle1 (D := d) (r := F i 1 (d - 1)) hi u4 (by omega) (by omega) g2 (by omega)
    · -- a reaction
      obtain ⟨g3, g4, -, g7⟩ := q4 g
      have eC : f130_9 n (j + 1) (1036 + 3 * i) (nI b) 0 (nI it) s = f130_9 n j (1036 + 3 * i) (nI (G 3 b)) 0 (nI (it + 1)) s := by
        rw [f130_9]
        have n1 : nI 4 = 4 := rfl
        simp (disch := omega) only [zlet, ↓reduceIte, zit, r10, grd k0, z7, nxN, e30, e31, g, n1, show ¬ (4 : Int32) = 0 by decide, show ¬ (4 : Int32) = 3 by decide, f130_189, nI_1]
      rw [eC]
      exact ih D (G 3 b) (it + 1) j (j2 + 1) s t (by omega) h g3 (by rw [← g7]; exact h7) hh (by omega) (by omega) hj2
end ZCL
