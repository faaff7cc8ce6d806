/-! calls on a run: trigger, send, run -/
section ZCT
variable {G W W2 : Nat → Nat → Nat} {F F2 : Nat → Nat → Nat → Nat} {B C B2 C2 x y n i j o k v p D r N P g z : Nat} {s t s2 t2 s' t' : zσ} {a b : Nat → Nat}
/-- a number comes to an in -/
theorem snd_ok {q : Int32} (h : RUN G F W B C x y s t) (hv : v < 4) (e1 : s.1 1019 v = nI z) (e2 : t.1 1218 v = nI z) (hz : z < 20) : RUN G F W B C x y (sI (sI s 1018 (20 * v + z) q) 1019 v (nI (z + 1))) (sI (sI t 1217 (20 * v + z) q) 1218 v (nI (z + 1))) := by
  have hxx := h.1.1
  have hyy := h.1.2.1
  obtain ⟨d1, d2, d3, d4, d5, d6, d7, d8, d9, d10, d11⟩ := id h.2.2.1
  have dE := h.2.2.2.1
  refine RUNx_glob h ⟨rfl, fun a ha => by rw [hIo (by omega), hIo (by omega)]⟩ ⟨rfl, fun a q1 q2 q3 => by rw [hIo (by omega), hIo (by omega)], by rw [hIo (by decide), hIo (by decide)]⟩ ⟨?_, ?_, ?_, ?_, ?_, ?_, ?_, ?_, ?_, ?_, ?_⟩ ?_
  · unfold rA at d1 ⊢; simp (disch := omega) only [hIo, hIk]; exact d1
  · unfold rB at d2 ⊢; simp (disch := omega) only [hIo, hIk]; exact d2
  · unfold rV at d3 ⊢; simp (disch := omega) only [hIo, hIk]; exact d3
  · unfold rW at d4 ⊢; simp (disch := omega) only [hIo, hIk]; exact d4
  · unfold rS at d5 ⊢; simp (disch := omega) only [hIo, hIk]; exact d5
  · unfold rL at d6 ⊢; simp (disch := omega) only [hIo, hIk]; exact d6
  · intro k hk
    obtain ⟨zz, j1, j2, j3, j4⟩ := d7 k hk
    by_cases e : k = v
    · subst e
      have ezz : zz = z := (neqN (by omega) (by omega)).mp (j2.symm.trans e1)
      subst ezz
      refine ⟨zz + 1, by omega, hIe, hIe, fun i hi => ?_⟩
      rw [hIo (show (1018 : Nat) ≠ 1019 by decide), hIo (show (1217 : Nat) ≠ 1218 by decide)]
      by_cases w : i = zz
      · rw [w, hIe, hIe]
      · rw [hIk (by omega), hIk (by omega)]
        exact j4 i (by omega)
    · refine ⟨zz, j1, by rw [hIk e, hIo (by decide)]; exact j2, by rw [hIk e, hIo (by decide)]; exact j3, fun i hi => ?_⟩
      rw [hIo (show (1018 : Nat) ≠ 1019 by decide), hIo (show (1217 : Nat) ≠ 1218 by decide), hIk (by omega), hIk (by omega)]
      exact j4 i hi
  · unfold rO at d8 ⊢; simp (disch := omega) only [hIo, hIk]; exact d8
  · unfold rP at d9 ⊢; simp (disch := omega) only [hIo, hIk]; exact d9
  · unfold rH at d10 ⊢; simp (disch := omega) only [hIo, hIk]; exact d10
  · unfold rC at d11 ⊢; simp (disch := omega) only [hIo, hIk]; exact d11
  · unfold rE at dE ⊢; simp (disch := omega) only [hIo, hIk]; exact dE
/-- what a call on a run leaves -/
def aft (G : Nat → Nat → Nat) (B C x y n : Nat) (f g : zσ → Option (Int32 × zσ)) (s t : zσ) : Prop := ∃ v s2 t2 F2 W2 B2 C2 a2 b2, f s = some (v, s2) ∧ g t = some (v, t2) ∧ RUN (Gh G a2 b2 0) F2 W2 B2 C2 x y s2 t2 ∧ Nob n x s2 ∧ B2 ≤ B + 2000 ∧ C2 ≤ C + 200000
theorem aft_rf {f g : zσ → Option (Int32 × zσ)} {q : Int32} (h : RUN (Gh G a b 0) F W B C x y s t) (hN : Nob n x s) (h1 : f s = some (q, s)) (h2 : g t = some (q, t)) : aft G B C x y n f g s t := ⟨q, s, t, F, W, B, C, a, b, h1, h2, h, hN, by omega, by omega⟩
theorem trig_ok (hn : 1000 ≤ n) (hC : C < 799000000) (h : eR (Gh G a b 0) W F B C x y s t) (hN : Nob n x s) (q : Int32) : aft G B C x y n (f133 n q) (f267 n q) s t := by
  obtain ⟨c9, c12, hy⟩ := eR_c h
  obtain ⟨h1, h2, h3⟩ := eR_n h 4 (by decide)
  have hm := eR_m h
  obtain ⟨hr, hr2, hx, hR⟩ := h
  have nr : ¬ s.1 1007 11 = 0 := by rw [hr]; decide
  have nr2 : ¬ t.1 1132 17 = 0 := by rw [hr2]; decide
  by_cases hq : q < 0
  · refine aft_rf (q := -1) hR hN ?_ ?_
    · unfold f133
      rw [if_neg nr, hx, grd c9, has_neg hq, gy1, if_pos rfl]
    · unfold f267
      rw [if_neg nr2, if_pos hq]
  · obtain ⟨k, hk, rfl⟩ := nI_of hq
    have e1 : f134 n x 4 (nI k) s = some (if k < Gh G a b 0 6 4 then 1 else 0, s) := has_N h1 (by decide) hk (by omega)
    have l1 := nltN hk (show Gh G a b 0 6 4 < 2 ^ 31 by omega)
    by_cases hl : k < Gh G a b 0 6 4
    · have k4 : k < 4 := by omega
      have z4 : zin? (nI k) 4 = true := (zinN hk).mpr k4
      obtain ⟨s2, t2, F2, W2, C2, g1, g2, g3, g4, g5, -⟩ := arrive_ok hn (by omega) hR hN k4
      obtain ⟨p1, -⟩ := hR.2.2.1.2.2.2.2.2.2.2.2.1 k k4
      refine ⟨if s.1 1027 k = 0 then 0 else 1, s2, t2, F2, W2, B, C2, a, b, ?_, ?_, g3, g5, by omega, by omega⟩
      · unfold f133
        rw [if_neg nr, hx, grd c9, e1, gy1, if_pos hl, if_neg (by decide), g1, gy1]
      · unfold f267
        rw [if_neg nr2, if_neg hq, hy, grd c12, if_pos (by decide), show nx (4 : Int32) = 4 by decide, h2, if_pos (l1.mpr hl), if_pos z4, zlet, g2, gy0, nxN hk, ← p1]
        split <;> rfl
    · refine aft_rf (q := -1) hR hN ?_ ?_
      · unfold f133
        rw [if_neg nr, hx, grd c9, e1, gy1, if_neg hl, if_pos rfl]
      · unfold f267
        rw [if_neg nr2, if_neg hq, hy, grd c12, if_pos (by decide), show nx (4 : Int32) = 4 by decide, h2, if_neg (fun w => hl (l1.mp w))]
theorem send_ok (hn : 1000 ≤ n) (hC : C < 799000000) (h : eR (Gh G a b 0) W F B C x y s t) (hN : Nob n x s) (q u : Int32) : aft G B C x y n (f135 n q u) (f268 n q u) s t := by
  obtain ⟨c9, c12, hy⟩ := eR_c h
  obtain ⟨h1, h2, h3⟩ := eR_n h 5 (by decide)
  have hm := eR_m h
  obtain ⟨hr, hr2, hx, hR⟩ := h
  have nr : ¬ s.1 1007 11 = 0 := by rw [hr]; decide
  have nr2 : ¬ t.1 1132 17 = 0 := by rw [hr2]; decide
  by_cases hq : q < 0
  · refine aft_rf (q := -1) hR hN ?_ ?_
    · unfold f135
      rw [if_neg nr, hx, grd c9, has_neg hq, gy1, if_pos rfl]
    · unfold f268
      rw [if_neg nr2, if_pos hq]
  · obtain ⟨k, hk, rfl⟩ := nI_of hq
    have e1 : f134 n x 5 (nI k) s = some (if k < Gh G a b 0 6 5 then 1 else 0, s) := has_N h1 (by decide) hk (by omega)
    have l1 := nltN hk (show Gh G a b 0 6 5 < 2 ^ 31 by omega)
    by_cases hl : k < Gh G a b 0 6 5
    · have k4 : k < 4 := by omega
      have z4 : zin? (nI k) 4 = true := (zinN hk).mpr k4
      have nk := nxN hk
      obtain ⟨z, i0, i1, i2, i4⟩ := hR.2.2.1.2.2.2.2.2.2.1 k k4
      have eM0 : f268 n (nI k) u t = (if nI z = 20 then some (-4, t) else if zin? (nI (20 * k + z)) 80 = true then yb0 (f226 n (sI (sI t 1217 (nx (nI (20 * k + z))) u) 1218 k (nI z + 1))) fun u4 => some (u4.1 1218 k, u4) else none) := by
        unfold f268
        simp only [if_neg nr2, if_neg hq, hy, grd c12, if_pos (show zin? (5 : Int32) 9 = true by decide), show nx (5 : Int32) = 5 by decide, h2, if_pos (l1.mpr hl), if_pos z4, nk, i2, nLmul, naddN, zlet]
        simp only [hIo (show (1218 : Nat) ≠ 1217 by decide), i2]
      have eC0 : f135 n (nI k) u s = (if nI z < 20 then yb0 (f136 n (nI k) u s) fun u4 => yb0 (f132 n u4) fun u5 => some (u5.1 1019 k, u5) else some (-4, s)) := by
        unfold f135
        simp only [if_neg nr, hx, grd c9, e1, gy1, if_pos hl, if_neg (show ¬ (1 : Int32) = 0 by decide), if_pos z4, nk, i1]
      by_cases hz : z < 20
      · have z80 : zin? (nI (20 * k + z)) 80 = true := (zinN (by omega)).mpr (by omega)
        have lz : nI z < 20 := (nltN (b := 20) (by omega) (by decide)).mpr hz
        have nz : ¬ nI z = 20 := fun e => by have := (neqN (b := 20) (by omega) (by decide)).mp e; omega
        have n80 := nxN (show 20 * k + z < 2 ^ 31 by omega)
        have e136 : f136 n (nI k) u s = some (sI (sI s 1018 (20 * k + z) u) 1019 k (nI (z + 1))) := by
          unfold f136
          simp only [if_pos z4, nk, i1, if_pos lz, nmulL, naddN, if_pos z80, n80, zlet, hIo (show (1019 : Nat) ≠ 1018 by decide), nI_1]
        have h4 := snd_ok (q := u) hR k4 i1 i2 hz
        obtain ⟨s5, t5, F5, W5, C5, v1, v2, v3, v4, v5, -⟩ := serve_ok hn (by omega) h4
        obtain ⟨z5, -, j1, j2, -⟩ := v3.2.2.1.2.2.2.2.2.2.1 k k4
        refine ⟨nI z5, s5, t5, F5, W5, B, C5, a, b, ?_, ?_, v3, v5, by omega, by omega⟩
        · rw [eC0, if_pos lz, e136, gy0, v1, gy0, j1]
        · rw [eM0, if_neg nz, if_pos z80, n80, nI_1, v2, gy0, j2]
      · have ez : z = 20 := by omega
        refine aft_rf (q := -4) hR hN ?_ ?_
        · rw [eC0, if_neg (by rw [ez]; decide)]
        · rw [eM0, if_pos (by rw [ez]; rfl)]
    · refine aft_rf (q := -1) hR hN ?_ ?_
      · unfold f135
        rw [if_neg nr, hx, grd c9, e1, gy1, if_neg hl, if_pos rfl]
      · unfold f268
        rw [if_neg nr2, if_neg hq, hy, grd c12, if_pos (by decide), show nx (5 : Int32) = 5 by decide, h2, if_neg (fun w => hl (l1.mp w))]
theorem run_ok (hn : 1000 ≤ n) (hB : B < 800000000) (hC : C < 799000000) (h : eR (Gh G a b 0) W F B C x y s t) (hN : Nob n x s) (q : Int32) : aft G B C x y n (f82 n q) (f221 n q) s t := by
  obtain ⟨hr, hr2, hx, hR⟩ := h
  have nr : ¬ s.1 1007 11 = 0 := by rw [hr]; decide
  have nr2 : ¬ t.1 1132 17 = 0 := by rw [hr2]; decide
  by_cases q1 : q < 1
  · exact aft_rf (q := -2) hR hN (by unfold f82; rw [if_pos q1]) (by unfold f221; rw [if_pos q1])
  · by_cases q2 : (500 : Int32) < q
    · exact aft_rf (q := -2) hR hN (by unfold f82; rw [if_neg q1, if_pos q2]) (by unfold f221; rw [if_neg q1, if_pos q2])
    · have q0 : ¬ q < 0 := fun w => q1 (Int32.lt_trans w (by decide))
      obtain ⟨k, hk, rfl⟩ := nI_of q0
      have k5 : k ≤ 500 := by
        rcases Nat.lt_or_ge 500 k with w | w
        · exact absurd ((nltN (a := 500) (by decide) hk).mpr w) q2
        · exact w
      obtain ⟨v, s2, t2, F2, W2, B2, C2, a2, b2, w1, w2, w3, w4, w5, w6⟩ := run_L (G := G) hn k5 k 0 n n B C a b F W s t hR hN (Nat.zero_add _) (by omega) (by omega) (by omega) (by omega)
      refine ⟨v, s2, t2, F2, W2, B2, C2, a2, b2, ?_, ?_, w3, w4, by omega, by omega⟩
      · unfold f82
        rw [if_neg q1, if_neg q2, if_neg nr]
        exact w1
      · unfold f221
        rw [if_neg q1, if_neg q2, if_neg nr2]
        exact w2
end ZCT
