/-! a task is started -/
section ZST
variable {G W : Nat → Nat → Nat} {F : Nat → Nat → Nat → Nat} {B C x y n o : Nat} {s t : zσ}
theorem half16 : ∀ k : Fin 16, nI k.1 / 2 = nI (k.1 / 2) ∧ (k.1 % 2 = 0 → nI k.1 - nI k.1 / 2 * 2 = 0) ∧ (k.1 % 2 = 1 → ¬ nI k.1 - nI k.1 / 2 * 2 = 0) := by decide
/-- the clock alone goes on -/
def Wc (W : Nat → Nat → Nat) : Nat → Nat → Nat := fun a j => if a = 4 ∧ j = 1 then W 4 1 + 1 else W a j
theorem Wc_o {a j : Nat} (ha : a < 4) : Wc W a j = W a j := by
  unfold Wc
  rw [if_neg (by omega)]
theorem Wc_40 : Wc W 4 0 = W 4 0 := by simp [Wc]
theorem Wc_41 : Wc W 4 1 = W 4 1 + 1 := by simp [Wc]
/-- a task with an empty block begins and ends -/
theorem m_begins0 {p : Nat} (hn : 10 ≤ n) (ho : o < 8) (hy : y = 1134 ∨ y = 1170) (h11 : t.2.2 1132 11 = some y) (hb : t.1 (y + 7) o = nI (G 14 o)) (hb2 : G 14 o < 700) (hf : t.1 (y + 13) (G 14 o) = -1) (hp : t.1 (y + 8) o = nI p) (hw : t.1 1132 30 = nI (W 4 1)) (hd : t.1 1235 o = 0) (h29 : t.1 1229 o = 0) : ∃ t2, f211 n (f219 n 4) (nI o) t = some t2 ∧ t2.2 = t.2 ∧ (∀ a k, ¬ (a = 1225 ∧ k = o) → ¬ (a = 1226 ∧ k = o) → ¬ (a = 1227 ∧ k = o) → ¬ (a = 1231 ∧ k = o) → ¬ (a = 1232 ∧ k = o) → ¬ (a = 1235 ∧ k = o) → ¬ (1236 ≤ a ∧ a ≤ 1238 ∧ k = 140 * o) → ¬ (a = 1132 ∧ k = 30) → ¬ (a = 1240 ∧ k = 2 * o + 1) → t2.1 a k = t.1 a k) ∧ t2.1 1225 o = 0 ∧ t2.1 1226 o = 0 ∧ t2.1 1231 o = t.1 1231 o + 1 ∧ t2.1 1232 o = t.1 1232 o + 1 ∧ t2.1 1235 o = 0 ∧ t2.1 1132 30 = nI (W 4 1 + 1) ∧ t2.1 1240 (2 * o + 1) = 0 := by
  have c12 := gck12 hy
  obtain ⟨n, rfl⟩ : ∃ m, n = m + 3 := ⟨n - 3, by omega⟩
  have e0 : nI (140 * o) + 0 = nI (140 * o) := Int32.add_zero _
  have e1 : (0 : Int32) + 1 = 1 := rfl
  have z8 : zin? (nI o) 8 = true := (zinN (by omega)).mpr ho
  have z11 : zin? (nI (140 * o)) 1120 = true := (zinN (by omega)).mpr (by omega)
  have z20 : zin? (nI (G 14 o)) 2000 = true := (zinN (by omega)).mpr (by omega)
  have z16 : zin? (nI (2 * o + 1)) 16 = true := (zinN (by omega)).mpr (by omega)
  obtain ⟨tP, htP⟩ : ∃ tP, tP = sI (sI (sI (sI (sI (sI (sI (sI (sI t 1225 o 1) 1226 o (nI p)) 1227 o (nI (W 4 1))) 1132 30 (nI (W 4 1 + 1))) 1231 o (t.1 1231 o + 1)) 1236 (140 * o) (nI (G 14 o))) 1237 (140 * o) (-1)) 1238 (140 * o) 0) 1235 o 1 := ⟨_, rfl⟩
  have eP : f211 (n + 3) (f219 (n + 3) 4) (nI o) t = yb0 (f213 (n + 3) (f219 (n + 3) 4) (nI o) tP) fun u9 => some u9 := by
    subst htP
    simp (disch := omega) only [f211, f212, zlet, ↓reduceIte, hIe, hIk, hIo, gI2, h11, grd c12, z8, z11, z20, nxN, hb, hf, hp, hw, naddL, hd, nLmul, e0, gnar0, gy0, e1]
  have d35 : tP.1 1235 o = nI 1 := by subst htP; rw [hIe]; rfl
  have d37 : tP.1 1237 (140 * o) = -1 := by subst htP; simp (disch := omega) only [hIo, hIe]
  have d38 : tP.1 1238 (140 * o) = 0 := by subst htP; simp (disch := omega) only [hIo, hIe]
  have d25 : tP.1 1225 o = 1 := by subst htP; simp (disch := omega) only [hIo, hIe]
  have d29 : tP.1 1229 o = 0 := by subst htP; simp (disch := omega) only [hIo]; exact h29
  have top : f214 (n + 3) (nI o) tP = some (nI (140 * o), tP) := m_top2 ho d35 (by decide) (by decide)
  have p1 : (0 : Int32) < nI 1 := by decide
  have e11 : nI 1 - 1 = (0 : Int32) := by decide
  have ePop : f215 (n + 3) (nI o) tP = some (0, sI tP 1235 o 0) := by
    simp (disch := omega) only [f215, zlet, ↓reduceIte, hIe, hIk, hIo, z8, z11, nxN, d35, e11, nLmul, e0, d38, true_or]
  have n00 : ¬ (0 : Int32) < 0 := by decide
  obtain ⟨tE, htE⟩ : ∃ tE, tE = sI (sI (sI (sI (sI tP 1235 o 0) 1225 o 0) 1226 o 0) 1232 o (tP.1 1232 o + 1)) 1240 (2 * o + 1) 0 := ⟨_, rfl⟩
  have eE : f219 (n + 3) 4 (nI o) (sI tP 1235 o 0) = some tE := by
    rw [f219, f219b, f219_0]
    subst htE
    simp (disch := omega) only [zlet, ↓reduceIte, hIe, hIk, hIo, z8, nxN, n00, nLmul, naddL, z16, gnar0, d29]
  have eS : f213 (n + 3) (f219 (n + 3) 4) (nI o) tP = some tE := by
    unfold f213
    rw [f213_0, if_pos z8, nxN (show o < 2 ^ 31 by omega), d35, if_pos p1, top, gy1, if_pos z11, nxN (show 140 * o < 2 ^ 31 by omega), d37, if_pos rfl, ePop, gy1, if_pos rfl, if_pos z8, hIe, if_neg n00, f213_0, if_pos z8, nxN (show o < 2 ^ 31 by omega), hIe, if_neg n00, f213_103, if_pos z8, nxN (show o < 2 ^ 31 by omega), hIe, if_pos rfl, if_pos z8, hIo (by decide), d25, if_neg (by decide), eE]
    rfl
  refine ⟨tE, by rw [eP, eS]; rfl, ?_, ?_, ?_, ?_, ?_, ?_, ?_, ?_, ?_⟩
  · subst htE htP; rfl
  · intro a k q1 q2 q3 q4 q5 q6 q7 q8 q9
    subst htE htP
    simp (disch := omega) only [hIx]
  · subst htE; simp (disch := omega) only [hIo, hIe]
  · subst htE; simp (disch := omega) only [hIo, hIe]
  · subst htE htP; simp (disch := omega) only [hIo, hIe]
  · subst htE htP; simp (disch := omega) only [hIo, hIe]
  · subst htE; simp (disch := omega) only [hIo, hIe]
  · subst htE htP; simp (disch := omega) only [hIo, hIe]
  · subst htE; simp (disch := omega) only [hIe]
set_option maxHeartbeats 1000000 in
theorem begin_empty (hn : 10 ≤ n) (h : RUN G F W B C x y s t) (ho8 : o < G 6 8) (hC : C < 900000000) (h0 : s.1 (1036 + 3 * o) 3 = 0) (he : G 9 (G 14 o) = 0) : ∃ s2 t2, f80 n (1036 + 3 * o) s = some s2 ∧ f211 n (f219 n 4) (nI o) t = some t2 ∧ RUN G F (Wc W) B (C + 1) x y s2 t2 ∧ oC o s s2 ∧ oM o t t2 ∧ s2.1 (1036 + 3 * o) 3 = 0 ∧ (∀ k, s2.1 1023 k = s.1 1023 k ∨ s2.1 1023 k = -1) ∧ s2.1 1007 14 = s.1 1007 14 := by
  obtain ⟨⟨hx, hy, ⟨r3, -⟩, r4, r5, r6, r7⟩, ⟨hN, hD, hB, hS⟩, -, -, hT, hU⟩ := id h
  have h8 := (hN.1 8 (by decide)).2.2
  have ho : o < 8 := by omega
  obtain ⟨k9, k6, k0⟩ := gck9 hx
  obtain ⟨⟨p, p1, p9, pc, pm⟩, -, b1, bc, bm, b2, b3⟩ := hD.2.2.1 o ho8
  have hb7 := hN.2.2.1.2.2.2.2
  obtain ⟨-, hfirst, -⟩ := hB (G 14 o) b1
  obtain ⟨f1, f2⟩ : s.1 (x + 32) (G 14 o) = -1 ∧ t.1 (y + 13) (G 14 o) = -1 := by
    rcases hfirst with ⟨-, q1, q2⟩ | ⟨r, q1, -⟩
    · exact ⟨q1, q2⟩
    · omega
  obtain ⟨g1, g2, g3, g4, g5, g6⟩ := gP_of h
  obtain ⟨w1, w2, w3, w4, w5⟩ := id g5
  obtain ⟨ta, tt1, tf⟩ := hT o ho (by omega)
  obtain ⟨a1, a2, a3, a4, a5, a6⟩ := id tf
  have hF0 := a3.mp h0
  obtain ⟨d10, d34⟩ := a4 hF0
  have d35 : t.1 1235 o = 0 := by rw [a1, hF0]; rfl
  have kk : s.1 (1036 + 3 * o) 5 = 0 ∧ t.1 1229 o = 0 := by
    obtain ⟨a, k, b1, b2, b3, b4, b5, b6, b7, b8, -⟩ := tt1
    have ea : a = 0 := (neq0 (Nat.lt_of_le_of_lt b1 (by decide))).mp (b2.symm.trans h0)
    obtain ⟨k0, -⟩ := b8 ea
    exact ⟨by rw [b6, k0]; rfl, by rw [b7, k0]; rfl⟩
  obtain ⟨t2, eM, u1, u2, u3, u4, u5, u6, u7, u8, u9⟩ := m_begins0 (n := n) (G := G) (W := W) hn ho hy r6 bm (by omega) f2 pm w2 d35 kk.2
  have z8 : zin? (nI o) 8 = true := (zinN (by omega)).mpr ho
  have z7 : zin? (nI (G 14 o)) 700 = true := (zinN (by omega)).mpr (by omega)
  have z16 : zin? (nI (2 * o + 1)) 16 = true := (zinN (by omega)).mpr (by omega)
  have f1' : s.1 (x + 29 + 3) (G 14 o) = -1 := f1
  obtain ⟨s2, hs2⟩ : ∃ s2, s2 = sI (sI (sI s (1036 + 3 * o) 7 (s.1 (1036 + 3 * o) 7 + 1)) (1036 + 3 * o) 8 (s.1 (1036 + 3 * o) 8 + 1)) 1023 (2 * o + 1) (-1) := ⟨_, rfl⟩
  have eC : f80 n (1036 + 3 * o) s = some s2 := by
    subst hs2
    simp (disch := omega) only [f80, zlet, ↓reduceIte, hIe, hIk, hIo, gI2, r3, r5, grd k9, grd k0, ta.1, z8, nxN, bc, z7, f1', nLmul, naddL, z16]
  have oc : oC o s s2 := by
    subst hs2
    exact ⟨rfl, fun a _ _ _ _ _ _ _ _ => by simp (disch := omega) only [hIo]⟩
  have om : oM o t t2 := ⟨by rw [u1], fun _ _ => by rw [u1], fun a q1 q2 q3 => funext fun k => u2 a k (by omega) (by omega) (by omega) (by omega) (by omega) (by omega) (by omega) (by omega) (by omega), fun a j q1 q2 q3 => u2 a j (by omega) (by omega) (by omega) (by omega) (by omega) (by omega) (by omega) (by omega) (by omega), fun a j d q1 q2 q3 q4 => u2 a _ (by omega) (by omega) (by omega) (by omega) (by omega) (by omega) (by omega) (by omega) (by omega), fun j k q1 q2 => u2 1239 _ (by omega) (by omega) (by omega) (by omega) (by omega) (by omega) (by omega) (by omega) (by omega), fun a q1 q2 => funext fun k => u2 a k (by omega) (by omega) (by omega) (by omega) (by omega) (by omega) (by omega) (by omega) (by omega), u2 1132 69 (by omega) (by omega) (by omega) (by omega) (by omega) (by omega) (by omega) (by omega) (by omega)⟩
  have m32 : ∀ k, k ≠ 30 → t2.1 1132 k = t.1 1132 k := fun k q => u2 1132 k (by omega) (by omega) (by omega) (by omega) (by omega) (by omega) (by omega) (by omega) (by omega)
  have ml : ∀ a, a < 1225 → a ≠ 1132 → t2.1 a = t.1 a := fun a q1 q2 => funext fun k => u2 a k (by omega) (by omega) (by omega) (by omega) (by omega) (by omega) (by omega) (by omega) (by omega)
  have hg : ∀ j, j < 8 → j ≠ o → sG1 j W (Wc W) F F := fun j _ hj => ⟨fun _ _ => rfl, fun a ha => Wc_o ha, by rw [Wc_40]; omega, by rw [Wc_41]; omega⟩
  have hx2 : RUNx o G F (Wc W) B (C + 1) x y s2 t2 := by
    refine RUNx_gP ho (Or.inr rfl) h oc om hg ⟨?_, ?_, ?_, ?_, ?_, ?_⟩
    · unfold rA at g1 ⊢
      simp (disch := omega) only [m32, show ∀ k, t2.1 1248 k = t.1 1248 k from fun k => u2 1248 k (by omega) (by omega) (by omega) (by omega) (by omega) (by omega) (by omega) (by omega) (by omega)]
      subst hs2
      simp (disch := omega) only [hIo, hIk]
      exact g1
    · unfold rB at g2 ⊢
      simp (disch := omega) only [m32, ml]
      subst hs2
      simp (disch := omega) only [hIo, hIk]
      exact g2
    · unfold rV at g3 ⊢
      simp (disch := omega) only [ml]
      subst hs2
      simp (disch := omega) only [hIo, hIk]
      exact g3
    · refine ⟨?_, Nat.le_trans (zNH_le (fun q hq e => ?_)) g4.2.1, g4.2.2⟩
      rotate_left
      · by_cases w : q = 2 * o + 1
        · subst hs2
          rw [w]
          exact hIe
        · subst hs2
          simp (disch := omega) only [hIo, hIk]
          exact e
      intro q hq
      have y1 : t2.1 1241 = t.1 1241 := om.2.2.2.2.2.2.1 _ (by decide) (by decide)
      have y2 : t2.1 1242 = t.1 1242 := om.2.2.2.2.2.2.1 _ (by decide) (by decide)
      have y3 : t2.1 1243 = t.1 1243 := om.2.2.2.2.2.2.1 _ (by decide) (by decide)
      have y4 : t2.1 1244 = t.1 1244 := om.2.2.2.2.2.2.1 _ (by decide) (by decide)
      rw [y1, y2, y3, y4]
      by_cases e : q = 2 * o + 1
      · left
        subst hs2 e
        exact ⟨hIe, u9⟩
      · have y5 : t2.1 1240 q = t.1 1240 q := u2 1240 q (by omega) (by omega) (by omega) (by omega) (by omega) (by omega) (by omega) (by omega) (by omega)
        have c1 : s2.1 1023 q = s.1 1023 q := by
          subst hs2
          simp (disch := omega) only [hIo, hIk]
        rw [y5, c1]
        subst hs2
        simp (disch := omega) only [hIo, hIk]
        exact g4.1 q hq
    · refine ⟨?_, by rw [u8, Wc_41], by rw [Wc_40]; omega, by rw [Wc_41]; omega, by omega⟩
      rw [Wc_40]
      subst hs2
      simp (disch := omega) only [hIo]
      exact w1
    · obtain ⟨e1, e2, e3⟩ := g6
      refine ⟨?_, ?_, W 4 1 + 1, by omega, u8⟩
      · rw [m32 29 (by decide)]
        subst hs2
        simp (disch := omega) only [hIo, hIk]
        exact e1
      · rw [m32 28 (by decide)]
        subst hs2
        simp (disch := omega) only [hIo, hIk]
        exact e2
  have h30 : s2.1 (1036 + 3 * o) 3 = 0 := by
    subst hs2
    simp (disch := omega) only [hIo, hIk]
    exact h0
  refine ⟨s2, t2, eC, eM, RUN_of hx2 ⟨?_, ?_, ?_⟩ (fun j hj hji => ?_), oc, om, h30, fun k => by
    by_cases q : k = 2 * o + 1
    · subst hs2 q; exact Or.inr hIe
    · subst hs2; left; rw [hIk q, hIo (by omega), hIo (by omega)], by subst hs2; rw [hIo (by omega), hIo (by omega), hIo (by omega)]⟩
  · obtain ⟨z1, z2, z3, z4, z5⟩ := ta
    unfold rTa
    rw [u5, u6, u2 1230 o (by omega) (by omega) (by omega) (by omega) (by omega) (by omega) (by omega) (by omega) (by omega), u2 1233 o (by omega) (by omega) (by omega) (by omega) (by omega) (by omega) (by omega) (by omega) (by omega)]
    subst hs2
    simp (disch := omega) only [hIo, hIk, hIe]
    exact ⟨z1, z2, by rw [z3], by rw [z4], z5⟩
  · refine ⟨0, 0, by decide, h30, u3, fun _ => rfl, by decide, ?_, ?_, fun _ => ⟨rfl, u4⟩, fun q => absurd rfl q, fun q => by omega, fun q => by omega⟩
    · subst hs2
      simp (disch := omega) only [hIo, hIk]
      exact kk.1
    · rw [u2 1229 o (by omega) (by omega) (by omega) (by omega) (by omega) (by omega) (by omega) (by omega) (by omega)]
      exact kk.2
  · unfold rF1
    rw [hF0]
    refine ⟨u7, by omega, ⟨fun _ => rfl, fun _ => h30⟩, fun _ => ⟨?_, ?_⟩, fun q => by omega, fun d hd => by omega⟩
    · subst hs2
      simp (disch := omega) only [hIo, hIk]
      exact d10
    · rw [u2 1234 o (by omega) (by omega) (by omega) (by omega) (by omega) (by omega) (by omega) (by omega) (by omega)]
      exact d34
  · constructor
    · refine fun _ => ⟨fun h1 => ?_, fun h1 => ?_⟩
      · rw [h30] at h1; exact absurd h1 (by decide)
      · rw [h30] at h1; rcases h1 with q | q <;> exact absurd q (by decide)
    · refine fun _ => ⟨fun _ h1 => ?_, fun _ h1 => ?_⟩
      · rw [h30] at h1; exact absurd h1 (by decide)
      · rw [h30] at h1; rcases h1 with q | q <;> exact absurd q (by decide)
end ZST
