/-! a task begins: the relation -/
section ZBH
variable {G W : Nat → Nat → Nat} {F : Nat → Nat → Nat → Nat} {B C x y n i : Nat} {s t : zσ}
theorem Wr_0 : Wr W i 0 i = W 4 0 + 1 := by simp [Wr]
theorem Wr_2 : Wr W i 2 i = W 4 1 := by simp [Wr]
theorem Wr_40 : Wr W i 4 0 = W 4 0 + 1 := by simp [Wr]
theorem Wr_41 : Wr W i 4 1 = W 4 1 + 1 := by simp [Wr]
theorem Wr_o {a j : Nat} (ha : a < 4) (hj : j ≠ i) : Wr W i a j = W a j := by
  unfold Wr
  rw [if_neg (by omega), if_neg (by omega), if_neg (by omega), if_neg (by omega)]
theorem Wr_1 {a : Nat} (ha : a = 1 ∨ a = 3) {j : Nat} : Wr W i a j = W a j := by
  unfold Wr
  rw [if_neg (by omega), if_neg (by omega), if_neg (by omega), if_neg (by omega)]
/-- the order, behind one that became ready at last -/
theorem rU_r {s2 : zσ} (hi : i < 8) (hs : s2.1 (1036 + 3 * i) 3 = 1) (hT : ∀ j, j < 8 → j ≠ i → rT1 G (Wr W i) j s2 t) (hT2 : ∀ j, j < 8 → j ≠ i → s2.1 (1036 + 3 * j) 3 = 1 → W 0 j ≤ W 4 0 ∧ W 2 j < W 4 1) : ∀ j, j < 8 → j ≠ i → rU2 (Wr W i) s2 i j ∧ rU2 (Wr W i) s2 j i := by
  intro j hj hji
  have w0 : Wr W i 0 j = W 0 j := Wr_o (by decide) hji
  have w2 : Wr W i 2 j = W 2 j := Wr_o (by decide) hji
  constructor
  · refine fun _ => ⟨fun _ h1 => ?_, fun h1 _ => ?_⟩
    · obtain ⟨a, b⟩ := hT2 j hj hji h1
      rw [Wr_0, Wr_2, w0, w2]
      omega
    · rw [hs] at h1
      rcases h1 with q | q <;> exact absurd q (by decide)
  · refine fun _ => ⟨fun h1 _ => ?_, fun _ h1 => ?_⟩
    · obtain ⟨a, b⟩ := hT2 j hj hji h1
      rw [Wr_0, Wr_2, w0, w2]
      omega
    · rw [hs] at h1
      rcases h1 with q | q <;> exact absurd q (by decide)
set_option maxHeartbeats 2000000 in
theorem begin_ok {g : Int32 → zσ → Option zσ} {k e : Nat} (hn : 0 < n) (he : e = i ∨ e = 8) (h : RUNx e G F W B C x y s t) (hi8 : i < G 6 8) (hC : C < 900000000) (hta : rTa i s t) (hk : k ≤ 3) (k1 : s.1 (1036 + 3 * i) 5 = nI k) (k2 : t.1 1229 i = nI k) (hd : t.1 1235 i = 0) (hp : t.1 1234 i = 0) (hne : G 9 (G 14 i) ≠ 0) : ∃ s2 t2 r, f80 n (1036 + 3 * i) s = some s2 ∧ f211 n g (nI i) t = some t2 ∧ RUN G (Fb F i (G 14 i) r) (Wr W i) B (C + 1) x y s2 t2 ∧ oC i s s2 ∧ oM i t t2 ∧ s2.1 (1036 + 3 * i) 3 = 1 ∧ s2.1 (1036 + 3 * i) 4 = s.1 (x + 14) i ∧ s2.1 1023 = s.1 1023 ∧ s2.1 1007 14 = s.1 1007 14 := by
  obtain ⟨⟨hx, hy, ⟨r3, -⟩, r4, r5, r6, r7⟩, ⟨hN, hD, hB, hS⟩, ⟨hA, hB', hV, -, -, -, -, -, -, hH, hCC⟩, hE, hT, hU⟩ := id h
  have h8 := (hN.1 8 (by decide)).2.2
  have hi : i < 8 := by omega
  obtain ⟨⟨p, p1, p9, pc, pm⟩, -, b1, bc, bm, b2, b3⟩ := hD.2.2.1 i hi8
  have hb7 := hN.2.2.1.2.2.2.2
  have hs2 := hN.2.2.1.2.2.1
  obtain ⟨⟨-, -, -, l1, l12⟩, hfirst, hk0, -, -, -, -, -, -⟩ := hB (G 14 i) b1
  rcases hfirst with ⟨q, -⟩ | ⟨r, q1, q2, q3, q4, q5⟩
  · exact absurd q hne
  obtain ⟨w1, w2, w3, w4, w5⟩ := hCC
  have eC := c_awaken (n := n) (G := G) (W := W) hi hx r3 r5 hta.1 bc (by omega) q4 (by omega) pc w1
  have eM := m_begins (n := n) (G := G) (W := W) (g := g) hn hi hy r6 bm (by omega) q5 (by omega) pm w2 hd
  obtain ⟨-, k5, k7, -⟩ := hk0 b2
  refine ⟨_, _, r, eC, eM, ?_⟩
  have oc : oC i s (sI (sI (sI (sI (sI (sI (sI s (1036 + 3 * i) 7 (s.1 (1036 + 3 * i) 7 + 1)) (1036 + 3 * i) 3 1) (1036 + 3 * i) 4 (nI p)) (1036 + 3 * i) 10 0) (1036 + 3 * i + 1) 0 (nI r)) 1007 15 (nI (W 4 0 + 1))) (1036 + 3 * i) 11 (nI (W 4 0 + 1))) := ⟨rfl, fun a _ _ _ _ _ _ _ _ => by simp (disch := omega) only [hIo]⟩
  have om : oM i t (sI (sI (sI (sI (sI (sI (sI (sI (sI t 1225 i 1) 1226 i (nI p)) 1227 i (nI (W 4 1))) 1132 30 (nI (W 4 1 + 1))) 1231 i (t.1 1231 i + 1)) 1236 (140 * i) (nI (G 14 i))) 1237 (140 * i) (nI r)) 1238 (140 * i) 0) 1235 i 1) := ⟨rfl, fun _ _ => rfl, fun a _ _ _ => by simp (disch := omega) only [hIo], fun a j _ _ _ => by simp (disch := omega) only [hIx], fun a j d _ _ _ _ => by simp (disch := omega) only [hIx], fun j k _ _ => by simp (disch := omega) only [hIx], fun a _ _ => by simp (disch := omega) only [hIo], by simp (disch := omega) only [hIo, hIk]⟩
  have sg : ∀ j, j < 8 → j ≠ i → sG1 j W (Wr W i) F (Fb F i (G 14 i) r) := fun j _ hj => ⟨fun a d => by simp [Fb, hj], fun a ha => Wr_o ha hj, by rw [Wr_40]; omega, by rw [Wr_41]; omega⟩
  generalize hS' : sI (sI (sI (sI (sI (sI (sI s (1036 + 3 * i) 7 (s.1 (1036 + 3 * i) 7 + 1)) (1036 + 3 * i) 3 1) (1036 + 3 * i) 4 (nI p)) (1036 + 3 * i) 10 0) (1036 + 3 * i + 1) 0 (nI r)) 1007 15 (nI (W 4 0 + 1))) (1036 + 3 * i) 11 (nI (W 4 0 + 1)) = s2 at oc ⊢
  generalize hT' : sI (sI (sI (sI (sI (sI (sI (sI (sI t 1225 i 1) 1226 i (nI p)) 1227 i (nI (W 4 1))) 1132 30 (nI (W 4 1 + 1))) 1231 i (t.1 1231 i + 1)) 1236 (140 * i) (nI (G 14 i))) 1237 (140 * i) (nI r)) 1238 (140 * i) 0) 1235 i 1 = t2 at om ⊢
  have hx' : RUNx i G (Fb F i (G 14 i) r) (Wr W i) B (C + 1) x y s2 t2 := by
    refine RUNx_go hi he h oc om sg ?_ ?_ ?_ ?_ ?_ ?_
    · subst hS' hT'
      unfold rA at hA ⊢
      simp (disch := omega) only [hIo, hIk]
      exact hA
    · subst hS' hT'
      unfold rB at hB' ⊢
      simp (disch := omega) only [hIo, hIk]
      exact hB'
    · subst hS' hT'
      unfold rV at hV ⊢
      simp (disch := omega) only [hIo, hIk]
      exact hV
    · subst hS' hT'
      unfold rH at hH ⊢
      simp (disch := omega) only [hIo, hIk]
      exact hH
    · subst hS' hT'
      refine ⟨?_, ?_, by rw [Wr_40]; omega, by rw [Wr_41]; omega, by omega⟩
      · rw [Wr_40]
        simp (disch := omega) only [hIo, hIe]
      · rw [Wr_41]
        simp (disch := omega) only [hIo, hIe]
    · subst hS' hT'
      obtain ⟨e1, e2, e3⟩ := hE
      refine ⟨?_, ?_, W 4 1 + 1, by omega, ?_⟩
      · simp (disch := omega) only [hIo, hIk]
        exact e1
      · simp (disch := omega) only [hIo, hIk]
        exact e2
      · simp (disch := omega) only [hIo, hIe]
  have h31 : s2.1 (1036 + 3 * i) 3 = 1 := by
    subst hS'
    simp (disch := omega) only [hIo, hIk, hIe]
  refine ⟨RUN_of hx' ⟨?_, ?_, ?_⟩ (rU_r (t := t2) hi h31 (fun j hj hji => (hx'.2.2.2.2.1 j hj hji).2.1) (fun j hj hji h1 => ?_)), oc, om, h31, by subst hS'; rw [pc]; simp (disch := omega) only [hIo, hIk, hIe], by subst hS'; simp (disch := omega) only [hIo], by subst hS'; simp (disch := omega) only [hIo, hIk]⟩
  · subst hS' hT'
    obtain ⟨z1, z2, z3, z4, z5⟩ := hta
    unfold rTa
    simp (disch := omega) only [hIo, hIk, hIe]
    exact ⟨z1, z2, by rw [z3], z4, z5⟩
  · subst hS' hT'
    refine ⟨1, k, by decide, h31, ?_, by omega, hk, ?_, ?_, by omega, fun _ => ⟨p, p1, p9, ?_, ?_⟩, fun _ => ⟨?_, ?_, ?_, ?_⟩, by omega⟩
    · simp (disch := omega) only [hIo, hIk, hIe]; rfl
    · simp (disch := omega) only [hIo, hIk]; exact k1
    · simp (disch := omega) only [hIo, hIk]; exact k2
    · simp (disch := omega) only [hIo, hIk, hIe]
    · simp (disch := omega) only [hIo, hIk, hIe]
    · rw [Wr_0]; simp (disch := omega) only [hIo, hIk, hIe]
    · rw [Wr_2]; simp (disch := omega) only [hIo, hIk, hIe]
    · rw [Wr_0, Wr_40]; omega
    · rw [Wr_2, Wr_41]; omega
  · have f0 : ∀ d, Fb F i (G 14 i) r i 0 d = G 14 i := fun d => by simp [Fb]
    have f1 : ∀ d, Fb F i (G 14 i) r i 1 d = r := fun d => by simp [Fb]
    have f2 : ∀ d, Fb F i (G 14 i) r i 2 d = 0 := fun d => by simp [Fb]
    have f3 : ∀ d, Fb F i (G 14 i) r i 3 d = 1 := fun d => by simp [Fb]
    unfold rF1
    simp only [f3, f2]
    refine ⟨?_, by decide, ?_, by omega, fun _ => ⟨hne, ?_, ?_, by rw [h31]; exact fun q => absurd q (by decide)⟩, fun d hd0 => ?_⟩
    · subst hT'
      simp (disch := omega) only [hIo, hIk, hIe]; rfl
    · rw [h31]; decide
    · subst hS'
      simp (disch := omega) only [hIo, hIk, hIe]; rfl
    · subst hT'
      simp (disch := omega) only [hIo, hIk]; exact hp
    · have d0 : d = 0 := by omega
      subst d0
      refine ⟨?_, ?_, ?_⟩
      · unfold rK
        simp only [f0, f1, f2, Nat.add_zero]
        refine ⟨b1, ?_, by omega, by decide, ⟨fun _ => by rw [k5, b3]; exact hi, fun _ => trivial⟩, Or.inl ⟨trivial, trivial, by rw [k7]; exact b2, by rw [k7]; exact b3, ?_⟩⟩
        · subst hT'
          simp (disch := omega) only [hIo, hIk, hIe]
        · subst hT'
          simp (disch := omega) only [hIo, hIk, hIe]
      · unfold rQ
        simp only [f0, f1, f2, Nat.add_zero]
        refine ⟨q2, q3, ?_, fun _ => ?_, by omega⟩
        · subst hT'
          simp (disch := omega) only [hIo, hIk, hIe]
        · subst hS'
          simp (disch := omega) only [hIo, hIk, hIe]
      · unfold rM
        simp only [f0]
        intro q
        rw [k7, b2] at q
        cases q
  · have e31 : s2.1 (1036 + 3 * j) 3 = s.1 (1036 + 3 * j) 3 := by rw [(oC_j hi hj hji oc).1]
    obtain ⟨-, ⟨a, kk, a4, t1, t2, -, -, -, -, -, -, t10, -⟩, -⟩ := hT j hj (by omega)
    rw [e31, t1] at h1
    have := t10 ((neq1 (by omega)).mp h1)
    exact ⟨this.2.2.1, this.2.2.2⟩
end ZBH
