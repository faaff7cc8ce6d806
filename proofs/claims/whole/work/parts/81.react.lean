/-! a signal goes to the nearest reaction, or ends the task -/
section ZRC
variable {G W : Nat → Nat → Nat} {F : Nat → Nat → Nat → Nat} {B C x y n i : Nat} {s t : zσ}
/-- the class leaves the reactions around a block -/
theorem c_strip {r38 : Nat → Int32 → Int32 → Int32 → Int32 → zσ → Option zσ} {w l it : Int32} (hx : x = 1060 ∨ x = 1096) (r10 : s.2.2 1007 10 = some (x + 29)) (h7 : G 0 1 ≤ 700) (hB : tB G x y s t) : ∀ (m b j k : Nat), G 4 b ≤ m → b < G 0 1 → k + G 4 b ≤ 12 → m ≤ j → f127_131 n r38 j (1036 + 3 * i) w l (nI b) it (nI k) s = f127_170 n r38 (1036 + 3 * i) w l (nI (G 7 b)) it s := by
  intro m
  induction m with
  | zero =>
    intro b j k h1 hb
    have := (hB b hb).1.2.2.2.1
    omega
  | succ m ih =>
    intro b j k h1 hb hk hj
    obtain ⟨j, rfl⟩ : ∃ j0, j = j0 + 1 := ⟨j - 1, by omega⟩
    obtain ⟨⟨b30, b4, b31, l1, l12⟩, -, q0, q1, q23, q4, -⟩ := hB b hb
    have c0 := (gck9 hx).2.2
    have z7 : zin? (nI b) 700 = true := (zinN (by omega)).mpr (by omega)
    have e30 : s.1 (x + 29 + 1) b = nI (G 2 b) := b30
    have e31 : s.1 (x + 29 + 2) b = nI (G 3 b) := b31
    have lk : nI k < 12 := (nltN (b := 12) (by omega) (by decide)).mpr (by omega)
    by_cases g : G 2 b = 4
    · obtain ⟨g3, g4, -, g7⟩ := q4 g
      have n4 : nI (G 2 b) = 4 := by rw [g]; rfl
      have hi := ih (G 3 b) j (k + 1) (by omega) g3 (by omega) (by omega)
      rw [g7, ← hi, f127_131]
      simp (disch := omega) only [zlet, ↓reduceIte, lk, r10, grd c0, z7, nxN, e30, e31, n4, nI_1]
    · have n4 : ¬ nI (G 2 b) = 4 := fun q => g ((neq4 (by omega)).mp q)
      have g7 : G 7 b = b := by
        have : G 2 b = 0 ∨ G 2 b = 1 ∨ G 2 b = 2 ∨ G 2 b = 3 := by omega
        rcases this with q | q | q | q
        · exact (q0 q).2.2.1
        · exact (q1 q).2.2.1
        · exact (q23 (Or.inl q)).2.2.2.1
        · exact (q23 (Or.inr q)).2.2.2.1
      rw [f127_131, g7]
      simp (disch := omega) only [zlet, ↓reduceIte, lk, r10, grd c0, z7, nxN, e30, n4]
/-- the reference leaves the frames above d -/
theorem m_popsTo {r : Int32} {d : Nat} (hi : i < 8) : ∀ (k : Nat) (t : zσ) (j : Nat), t.1 1235 i = nI (d + 1 + k) → d + 1 + k ≤ 108 → (∀ e, e < d + 1 + k → rK G F i e t) → t.1 1234 i = nI (F i 2 (d + k)) → ∃ t2, f266_174 n (k + j) (nI i) (nI d) r t = f266_174 n j (nI i) (nI d) r t2 ∧ sP i t t2 ∧ t2.1 1235 i = nI (d + 1) ∧ t2.1 1234 i = nI (F i 2 d) ∧ t2.1 1132 27 = t.1 1132 27 + nI (F i 2 (d + k)) - nI (F i 2 d) := by
  intro k
  induction k with
  | zero =>
    intro t j h1 h2 h3 h4
    exact ⟨t, by rw [Nat.zero_add], sP_rf, h1, h4, by rw [Nat.add_zero, Int32.add_sub_cancel]⟩
  | succ k ih =>
    intro t j h1 h2 h3 h4
    obtain ⟨t1, e1, o1, d1, p1, v1⟩ := m_pop (n := n) (D := d + 1 + k) hi (by rw [h1]; rfl) (by omega) (h3 (d + 1 + k) (by omega)) (by rw [h4]; congr 2; omega)
    have ez : zL F i (d + 1 + k) = F i 2 (d + k) := by
      rw [show d + 1 + k = (d + k) + 1 by omega]
      rfl
    rw [ez] at p1 v1
    obtain ⟨t2, e2, o2, d2, p2, v2⟩ := ih t1 j d1 (by omega) (fun e he => rK_P o1 (h3 e (by omega))) p1
    have z8 : zin? (nI i) 8 = true := (zinN (by omega)).mpr hi
    have q : nI d + 1 < nI (d + 1 + (k + 1)) := by
      rw [nI_1]
      exact (nltN (by omega) (by omega)).mpr (by omega)
    refine ⟨t2, ?_, sP_tr o1 o2, d2, p2, ?_⟩
    · rw [show k + 1 + j = (k + j) + 1 by omega, f266_174, if_pos z8, nxN (show i < 2 ^ 31 by omega), h1, if_pos q, e1, gy1, e2]
    · rw [v2, v1, Int32.sub_add_cancel]
      congr 3
      congr 1
      omega
/-- frame d has the block r now -/
def Fr (F : Nat → Nat → Nat → Nat) (i d r : Nat) : Nat → Nat → Nat → Nat := fun j a e => if j = i ∧ a = 0 ∧ e = d then r else F j a e
set_option maxHeartbeats 2000000 in
theorem CL_react {d r D : Nat} {s2 t2 : zσ} {v : Int32} (h : CL G F W B C x y i D s t) (hd : d < D) (hr : r < G 0 1) (hr4 : G 2 r = 4) (hr3 : G 3 r = F i 0 d) (hs : s2 = sI (sI (sI s 1030 5 (s.1 1030 5 + 1)) 1030 9 (s.1 1030 9 + (nI (F i 2 (D - 1)) - nI (F i 2 d)))) (1036 + 3 * i) 10 (nI (F i 2 d))) (o : sP i (sI t 1132 25 (t.1 1132 25 + 1)) t2) (d1 : t2.1 1235 i = nI (d + 1)) (d2 : t2.1 1234 i = nI (F i 2 d)) (d3 : t2.1 1132 27 = t.1 1132 27 + nI (F i 2 (D - 1)) - nI (F i 2 d)) : CL G (Fr F i d r) W B C x y i (d + 1) s2 (sI (sI t2 1236 (140 * i + d) (nI r)) 1237 (140 * i + d) v) := by
  have hi := CL_i h
  obtain ⟨hx, ha, hb3, hu, c1, c2, c3, c4, c5, c6, c7, c8, c9, c10, c11⟩ := id h
  obtain ⟨⟨hxx, -⟩, ⟨-, -, hB, -⟩, -⟩ := id hx
  obtain ⟨⟨-, -, -, l1, l12⟩, -, -, -, -, q4, -⟩ := hB r hr
  obtain ⟨-, g4, g5, g7⟩ := q4 hr4
  rw [hr3] at g4 g5 g7
  have f0 : ∀ e, e ≠ d → Fr F i d r i 0 e = F i 0 e := fun e he => by simp [Fr, he]
  have f0' : Fr F i d r i 0 d = r := by simp [Fr]
  have f7 : ∀ e, G 7 (Fr F i d r i 0 e) = G 7 (F i 0 e) := fun e => by
    by_cases q : e = d
    · rw [q, f0', g7]
    · rw [f0 e q]
  have f1 : ∀ e, Fr F i d r i 1 e = F i 1 e := fun e => by simp [Fr]
  have f2 : ∀ e, Fr F i d r i 2 e = F i 2 e := fun e => by simp [Fr]
  have tt : ∀ a k, ¬ (a = 1235 ∧ k = i) → ¬ (a = 1234 ∧ k = i) → ¬ (a = 1132 ∧ k = 27) → ¬ (a = 1132 ∧ k = 25) → t2.1 a k = t.1 a k := fun a k q1 q2 q3 q4 => by rw [o.2 a k q1 q2 q3, hIx q4]
  have t25 : t2.1 1132 25 = t.1 1132 25 + 1 := by rw [o.2 _ _ (by omega) (by omega) (by omega), hIe]
  have m2 : ∀ k, k ≠ 27 → k ≠ 25 → t2.1 1132 k = t.1 1132 k := fun k q1 q2 => tt _ _ (by omega) (by omega) (by omega) (by omega)
  have mm : ∀ a, a ≠ 1235 → a ≠ 1234 → a ≠ 1132 → t2.1 a = t.1 a := fun a q1 q2 q3 => funext fun k => tt a k (by omega) (by omega) (by omega) (by omega)
  have oc : oC i s s2 := by
    subst hs
    exact ⟨rfl, fun a _ _ _ _ _ _ _ _ => by simp (disch := omega) only [hIo]⟩
  have om1 : oM i t (sI t 1132 25 (t.1 1132 25 + 1)) := ⟨rfl, fun _ _ => rfl, fun a _ _ _ => by simp (disch := omega) only [hIo], fun a j _ _ _ => by simp (disch := omega) only [hIx], fun a j d _ _ _ _ => by simp (disch := omega) only [hIx], fun j k _ _ => by simp (disch := omega) only [hIx], fun a _ _ => by simp (disch := omega) only [hIo], by simp (disch := omega) only [hIo, hIk]⟩
  have om2 : oM i t2 (sI (sI t2 1236 (140 * i + d) (nI r)) 1237 (140 * i + d) v) := ⟨rfl, fun _ _ => rfl, fun a _ _ _ => by simp (disch := omega) only [hIo], fun a j _ _ _ => by simp (disch := omega) only [hIx], fun a j d _ _ _ _ => by simp (disch := omega) only [hIx], fun j k _ _ => by simp (disch := omega) only [hIx], fun a _ _ => by simp (disch := omega) only [hIo], by simp (disch := omega) only [hIo, hIk]⟩
  have om : oM i t (sI (sI t2 1236 (140 * i + d) (nI r)) 1237 (140 * i + d) v) := oM_tr (oM_tr om1 (sP_oM o)) om2
  have k : kT i s s2 t (sI (sI t2 1236 (140 * i + d) (nI r)) 1237 (140 * i + d) v) := by
    subst hs
    refine ⟨fun k hk => by simp (disch := omega) only [hIo, hIk], fun a q1 q2 => ?_⟩
    rw [hIx (by omega), hIx (by omega)]
    exact tt a i (by omega) (by omega) (by omega) (by omega)
  obtain ⟨p1, p2, p3, p4, p5, p6⟩ := gP_of hx
  refine ⟨RUNx_gP hi (Or.inl rfl) hx oc om (fun j _ hj => ⟨fun a e => by simp [Fr, hj], fun _ _ => rfl, Nat.le_refl _, Nat.le_refl _⟩) ⟨?_, ?_, ?_, ?_, ?_, ?_⟩, kT_a k ha, kT_1 k hb3, kT_u k hi oc hu, c1, c2, ?_, ?_, by omega, by omega, ?_, ?_, fun e he => ?_, fun e he => ?_, fun e he => ?_⟩
  · obtain ⟨a1, a2, a3, a4, a5, a6, a7, a8⟩ := p1
    unfold rA
    simp (disch := omega) only [hIo, m2, t25, d3, mm 1248 (by decide) (by decide) (by decide)]
    subst hs
    simp (disch := omega) only [hIo, hIk, hIe]
    refine ⟨a1, a2, a3, a4, by rw [a5], a6, ?_, a8⟩
    rw [a7, Int32.sub_eq_add_neg, Int32.sub_eq_add_neg, Int32.add_assoc]
  · unfold rB at p2 ⊢
    simp (disch := omega) only [hIo, m2, mm]
    subst hs
    simp (disch := omega) only [hIo, hIk]
    exact p2
  · unfold rV at p3 ⊢
    simp (disch := omega) only [hIo, mm]
    subst hs
    simp (disch := omega) only [hIo]
    exact p3
  · unfold rH at p4 ⊢
    simp (disch := omega) only [hIo, mm]
    subst hs
    simp (disch := omega) only [hIo]
    exact p4
  · unfold rC at p5 ⊢
    simp (disch := omega) only [hIo, m2]
    subst hs
    simp (disch := omega) only [hIo]
    exact p5
  · unfold rE at p6 ⊢
    simp (disch := omega) only [hIo, m2]
    subst hs
    simp (disch := omega) only [hIo, hIk]
    exact p6
  · rw [k.1 3 (by decide)]; exact c3
  · simp (disch := omega) only [hIo]; exact d1
  · rw [Nat.add_sub_cancel, f2]
    subst hs
    exact hIe
  · rw [Nat.add_sub_cancel, f2]
    simp (disch := omega) only [hIo]; exact d2
  · have hq := c9 e (by omega)
    unfold rK at hq ⊢
    simp only [f2, f1, f7]
    have x38 : ∀ j, (sI (sI t2 1236 (140 * i + d) (nI r)) 1237 (140 * i + d) v).1 1238 j = t.1 1238 j := fun j => by
      simp (disch := omega) only [hIo]
      rw [mm 1238 (by omega) (by omega) (by omega)]
    rw [x38]
    by_cases q : e = d
    · subst q
      rw [f0']
      obtain ⟨a1, a2, a3, a4, a5, a6⟩ := hq
      refine ⟨hr, by simp (disch := omega) only [hIo, hIe], by omega, a4, by rw [g5]; exact a5, a6⟩
    · rw [f0 e q, hIo (by omega), hIk (by omega), mm 1236 (by omega) (by omega) (by omega)]
      exact hq
  · have hq := c10 e (by omega)
    unfold rQ at hq ⊢
    simp only [f2, f1, f7]
    rw [f0 e (by omega), hIk (by omega), hIo (by omega), mm 1237 (by omega) (by omega) (by omega)]
    subst hs
    simp (disch := omega) only [hIo]
    obtain ⟨a1, a2, a3, a4, a5⟩ := hq
    exact ⟨a1, a2, a3, fun q => a4 (by omega), fun q1 q2 => a5 (by omega) q2⟩
  · have hq := c11 e (by omega)
    unfold rM at hq ⊢
    simp only [f2, f7]
    simp (disch := omega) only [hIo, mm]
    subst hs
    simp (disch := omega) only [hIo]
    exact hq
end ZRC
