/-! a signal is told, then it goes its way -/
section ZIO
variable {G W : Nat → Nat → Nat} {F : Nat → Nat → Nat → Nat} {B C x y n i D : Nat} {s t : zσ}
set_option maxHeartbeats 2000000 in
theorem CL_note {w r m : Nat} {s1 t1 : zσ} (h : CL G F W B C x y i D s t) (hm : m ≤ B) (hB2 : B < 1000000000) (m1 : s.1 1030 3 = nI m) (m2 : t.1 1132 24 = nI m) (hs2 : s1.2 = s.2) (hs : ∀ a, a ≠ 1032 → s1.1 a = s.1 a) (ht2 : t1.2 = t.2) (ht : ∀ a k, a ≠ 1222 → a ≠ 1223 → a ≠ 1224 → t1.1 a k = t.1 a k) (hc : ∀ j, j < m + 1 → j < 100 → s1.1 1032 (3 * j) = t1.1 1222 j ∧ s1.1 1032 (3 * j + 1) = t1.1 1223 j ∧ s1.1 1032 (3 * j + 2) = t1.1 1224 j) : CL G F W (B + 1) C x y i D (sI (sI (sI s1 1030 3 (nI (m + 1))) 1030 4 (s.1 1030 4 + 1)) (1036 + 3 * i) 9 (nI w)) (sI (sI (sI t1 1132 24 (nI (m + 1))) 1132 29 (t.1 1132 29 + 1)) 1233 i (nI w)) ∧ oC i s (sI (sI (sI s1 1030 3 (nI (m + 1))) 1030 4 (s.1 1030 4 + 1)) (1036 + 3 * i) 9 (nI w)) ∧ oM i t (sI (sI (sI t1 1132 24 (nI (m + 1))) 1132 29 (t.1 1132 29 + 1)) 1233 i (nI w)) := by
  have hi := CL_i h
  obtain ⟨hx, ha, hb3, hu, c1, c2, c3, c4, c5, c6, c7, c8, c9, c10, c11⟩ := id h
  have hxx := hx.1.1
  have mm : ∀ a, a ≠ 1222 → a ≠ 1223 → a ≠ 1224 → a ≠ 1132 → t1.1 a = t.1 a := fun a q1 q2 q3 q4 => funext fun k => ht a k q1 q2 q3
  have m32 : ∀ k, t1.1 1132 k = t.1 1132 k := fun k => ht _ _ (by decide) (by decide) (by decide)
  have oc : oC i s (sI (sI (sI s1 1030 3 (nI (m + 1))) 1030 4 (s.1 1030 4 + 1)) (1036 + 3 * i) 9 (nI w)) := ⟨hs2, fun a _ _ _ _ _ _ _ _ => by simp (disch := omega) only [hIo, hs]⟩
  have om : oM i t (sI (sI (sI t1 1132 24 (nI (m + 1))) 1132 29 (t.1 1132 29 + 1)) 1233 i (nI w)) := by
    refine ⟨congrArg Prod.snd ht2, fun a _ => congrArg (fun z : (Nat → Nat → Int64) × (Nat → Nat → Option Nat) => z.1 a) ht2, fun a _ _ _ => by simp (disch := omega) only [hIo, mm], fun a j _ _ _ => ?_, fun a j d _ _ _ _ => ?_, fun j k _ _ => ?_, fun a _ _ => by simp (disch := omega) only [hIo, mm], by simp (disch := omega) only [hIo, hIk, m32]⟩
    · simp (disch := omega) only [hIx, mm]
    · simp (disch := omega) only [hIx, mm]
    · simp (disch := omega) only [hIx, mm]
  obtain ⟨p1, p2, p3, p4, p5, p6⟩ := gP_of hx
  refine ⟨⟨RUNx_gP hi (Or.inl rfl) hx oc om (fun j _ hj => sG1_rf) ⟨?_, ?_, ?_, ?_, ?_, ?_⟩, ?_, ?_, ?_, c1, c2, ?_, ?_, c5, c6, ?_, ?_, fun e he => ?_, fun e he => ?_, fun e he => ?_⟩, oc, om⟩
  · unfold rA at p1 ⊢; simp (disch := omega) only [hIo, hIk, hs, m32, show ∀ k, t1.1 1248 k = t.1 1248 k from fun k => ht _ _ (by decide) (by decide) (by decide)]; exact p1
  · obtain ⟨⟨l, a1, a2, a3, a4⟩, -, l2, a5, a6⟩ := p2
    refine ⟨⟨l, by omega, ?_, ?_, ?_⟩, ⟨m + 1, by omega, ?_, ?_, ?_⟩, l2, by omega, by simp (disch := omega) only [hIo, hs]; exact a6⟩
    · simp (disch := omega) only [hIo, hIk, hs]; exact a2
    · simp (disch := omega) only [hIo, hIk, m32]; exact a3
    · simp (disch := omega) only [hIo, hs, mm]; exact a4
    · simp (disch := omega) only [hIo, hIk, hIe]
    · simp (disch := omega) only [hIo, hIk, hIe]
    · simp (disch := omega) only [hIo]; exact hc
  · unfold rV at p3 ⊢; simp (disch := omega) only [hIo, hs, mm]; exact p3
  · unfold rH at p4 ⊢; simp (disch := omega) only [hIo, hs, mm]; exact p4
  · unfold rC at p5 ⊢; simp (disch := omega) only [hIo, hIk, hs, m32]; exact p5
  · obtain ⟨a1, a2, a3⟩ := p6
    unfold rE
    simp (disch := omega) only [hIo, hIk, hIe, hs, m32]
    exact ⟨by rw [a1], a2, a3⟩
  · unfold rTa at ha ⊢
    simp (disch := omega) only [hIo, hIk, hIe, hs, mm]
    exact ⟨ha.1, ha.2.1, ha.2.2.1, ha.2.2.2.1, trivial⟩
  · unfold rT1 at hb3 ⊢
    simp (disch := omega) only [hIo, hIk, hs, mm]
    exact hb3
  · intro j hj hji
    have u := hu j hj hji
    unfold rU2 at u ⊢
    simp (disch := omega) only [hIo, hIk, hs]
    exact u
  · simp (disch := omega) only [hIo, hIk, hs]; exact c3
  · simp (disch := omega) only [hIo, mm]; exact c4
  · simp (disch := omega) only [hIo, hIk, hs]; exact c7
  · simp (disch := omega) only [hIo, mm]; exact c8
  · have q := c9 e he
    unfold rK at q ⊢; simp (disch := omega) only [hIo, mm]; exact q
  · have q := c10 e he
    unfold rQ at q ⊢; simp (disch := omega) only [hIo, hs, mm]; exact q
  · have q := c11 e he
    unfold rM at q ⊢; simp (disch := omega) only [hIo, hs, mm]; exact q
set_option maxHeartbeats 2000000 in
theorem induce_ok {w r : Nat} (hw : w < 20) (hn : 1000 ≤ n) (hC : C < 900000000) (hB2 : B < 1000000000) (h0 : CL G F W B C x y i D s t) (hr : r < G 0 0) (hb : G 1 r = F i 0 (D - 1)) (h69 : t.1 1132 69 = nI w) : mR G W (B + 1) C x y i s (sI t 1132 69 0) (f127 n (1036 + 3 * i) (nI w) (nI r) s) (f266 n (nI i) (nI r) t) := by
  have h : CL G F W B C x y i D s (sI t 1132 69 0) := CL_sc scC_rf (show scM t (sI t 1132 69 0) from ⟨rfl, fun _ _ => rfl, fun a k _ _ _ _ => hIx (by omega)⟩) h0
  have hi := CL_i h
  obtain ⟨hx, ha, hb3, hu, c1, c2, c3, c4, c5, c6, c7, c8, c9, c10, c11⟩ := id h
  obtain ⟨⟨hxx, hyy, ⟨r8, -⟩, r9, r10, r11, rt⟩, ⟨hN, hDD, hBB, hS⟩, -⟩ := id hx
  obtain ⟨k9, k6, k0⟩ := gck9 hxx
  have n2 := hN.2.2.1.2.2.1
  obtain ⟨-, ⟨-, ⟨m, m1, m2, m3, m4⟩, -⟩, -⟩ := gP_of hx
  have m3' : t.1 1132 24 = nI m := by rw [hIk (by decide)] at m3; exact m3
  have z8 : zin? (nI i) 8 = true := (zinN (by omega)).mpr hi
  have zr : zin? (nI r) 200 = true := (zinN (by omega)).mpr (by omega)
  have l100 : nI m < 100 ↔ m < 100 := nltN (b := 100) (by omega) (by decide)
  obtain ⟨⟨-, w26, -, -⟩, -⟩ := hS r hr
  have eD : nI D - 1 = nI (D - 1) := nsubL (k := 1) (by omega)
  -- the told signal
  have key : ∃ s1 t1, s1.2 = s.2 ∧ (∀ a, a ≠ 1032 → s1.1 a = s.1 a) ∧ t1.2 = (sI t 1132 69 0).2 ∧ (∀ a k, a ≠ 1222 → a ≠ 1223 → a ≠ 1224 → t1.1 a k = (sI t 1132 69 0).1 a k) ∧ (∀ j, j < m + 1 → j < 100 → s1.1 1032 (3 * j) = t1.1 1222 j ∧ s1.1 1032 (3 * j + 1) = t1.1 1223 j ∧ s1.1 1032 (3 * j + 2) = t1.1 1224 j) ∧ f128 n (nI i) (nI w) (nI r) s = f128_49 n s1 ∧ f266 n (nI i) (nI r) t = f266_49 n (nI i) (nI w) t1 := by
    by_cases q : m < 100
    · have w0 : zin? (nI (3 * m)) 300 = true := (zinN (by omega)).mpr (by omega)
      have w1 : zin? (nI (3 * m + 1)) 300 = true := (zinN (by omega)).mpr (by omega)
      have w2 : zin? (nI (3 * m + 2)) 300 = true := (zinN (by omega)).mpr (by omega)
      have w3 : zin? (nI m) 100 = true := (zinN (by omega)).mpr q
      have q1 : nI m < 100 := l100.mpr q
      refine ⟨sI (sI (sI s 1032 (3 * m) (nI i)) 1032 (3 * m + 1) (nI w)) 1032 (3 * m + 2) (nI r), sI (sI (sI (sI t 1132 69 0) 1222 m (nI i)) 1223 m (nI w)) 1224 m (nI r), rfl, fun a ha => by simp (disch := omega) only [hIo], rfl, fun a k b1 b2 b3 => by simp (disch := omega) only [hIo], fun j h1 h2 => ?_, ?_, ?_⟩
      · by_cases q2 : j = m
        · subst q2
          simp (disch := omega) only [hIo, hIk, hIe]
          exact ⟨trivial, trivial, trivial⟩
        · have q3 := m4 j (by omega) h2
          simp (disch := omega) only [hIo] at q3
          simp (disch := omega) only [hIo, hIk]
          exact q3
      · simp (disch := omega) only [f128, zlet, ↓reduceIte, m2, q1, nLmul, naddL, w0, w1, w2, nxN, hIo]
      · simp (disch := omega) only [f266, zlet, ↓reduceIte, h69, hIo, hIk, m3', q1, w3, nxN]
    · have q1 : ¬ nI m < 100 := fun e => q (l100.mp e)
      refine ⟨s, sI t 1132 69 0, rfl, fun _ _ => rfl, rfl, fun a k b1 b2 b3 => rfl, fun j h1 h2 => m4 j (by omega) h2, ?_, ?_⟩
      · simp (disch := omega) only [f128, ↓reduceIte, m2, q1]
      · simp (disch := omega) only [f266, zlet, ↓reduceIte, h69, hIk, m3', q1]
  obtain ⟨s1, t1, hs2, hs, ht2, ht, hc, e1, e2⟩ := key
  obtain ⟨hcl, oc, om⟩ := CL_note (w := w) (r := r) h m1 hB2 m2 m3 hs2 hs ht2 ht hc
  have mm : ∀ a, a ≠ 1222 → a ≠ 1223 → a ≠ 1224 → a ≠ 1132 → t1.1 a = (sI t 1132 69 0).1 a := fun a q1 q2 q3 q4 => funext fun k => ht a k q1 q2 q3
  have m32 : ∀ k, t1.1 1132 k = (sI t 1132 69 0).1 1132 k := fun k => ht _ _ (by decide) (by decide) (by decide)
  have e26 : s.1 (x + 19 + 7) r = nI (G 1 r) := w26
  have h9 : s1.2.2 1007 9 = some (x + 19) := by rw [hs2]; exact r9
  have eC : f127 n (1036 + 3 * i) (nI w) (nI r) s = f127_38 n n (1036 + 3 * i) (nI w) (nI (F i 2 (D - 1))) (nI (F i 0 (D - 1))) (nI 0) (sI (sI (sI s1 1030 3 (nI (m + 1))) 1030 4 (s.1 1030 4 + 1)) (1036 + 3 * i) 9 (nI w)) := by
    have q128 : f128_49 n s1 = some (sI (sI s1 1030 3 (nI (m + 1))) 1030 4 (s.1 1030 4 + 1)) := by
      simp (disch := omega) only [f128_49, zlet, hs, m2, nI_1, hIk]
    unfold f127
    rw [ha.1, e1, q128, gy0]
    simp (disch := omega) only [zlet, ↓reduceIte, hIo, hIk, hs, c7, gI2, h9, grd k6, zr, nxN, e26, hb, nof0]
  have t29 : (sI t 1132 69 0).1 1132 29 = t.1 1132 29 := hIk (by decide)
  have eM : f266 n (nI i) (nI r) t = f266_86 n n (nI i) (nI w) (nI (D - 1)) (sI (sI (sI t1 1132 24 (nI (m + 1))) 1132 29 ((sI t 1132 69 0).1 1132 29 + 1)) 1233 i (nI w)) := by
    have c4' : t.1 1235 i = nI D := by rw [hIo (by decide)] at c4; exact c4
    rw [e2]
    simp (disch := omega) only [f266_49, zlet, ↓reduceIte, m32, m3', nI_1, hIk, hIo, z8, nxN, mm, c4', eD]
  rw [eC, eM]
  exact mR_tr oc om (react_loop hw hn hC hcl (D - 1) 0 n n (by omega) (by omega) (by omega) (by omega))
end ZIO
