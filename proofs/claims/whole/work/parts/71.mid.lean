/-! a task between two statements: D frames, the statement of the last one is not settled -/
section ZMD
variable {G W : Nat → Nat → Nat} {F : Nat → Nat → Nat → Nat} {B C x y n i : Nat} {s t s2 t2 : zσ}
/-- the task goes on: it is not dormant, and it does not wait -/
theorem zAc_0 (h : ¬ (s.1 (1036 + 3 * i) 3 = 0 ∨ s.1 (1036 + 3 * i) 3 = 3 ∨ s.1 (1036 + 3 * i) 3 = 4)) : ¬ s.1 (1036 + 3 * i) 3 = 0 := fun q => h (Or.inl q)
theorem zAc_w (h : ¬ (s.1 (1036 + 3 * i) 3 = 0 ∨ s.1 (1036 + 3 * i) 3 = 3 ∨ s.1 (1036 + 3 * i) 3 = 4)) : ¬ (s.1 (1036 + 3 * i) 3 = 3 ∨ s.1 (1036 + 3 * i) 3 = 4) := fun q => h (Or.inr q)
/-- the frames -/
def cF (G : Nat → Nat → Nat) (F : Nat → Nat → Nat → Nat) (x i D : Nat) (s t : zσ) : Prop := i < G 6 8 ∧ G 9 (G 14 i) ≠ 0 ∧ ¬ (s.1 (1036 + 3 * i) 3 = 0 ∨ s.1 (1036 + 3 * i) 3 = 3 ∨ s.1 (1036 + 3 * i) 3 = 4) ∧ t.1 1235 i = nI D ∧ 0 < D ∧ D ≤ 108 ∧ s.1 (1036 + 3 * i) 10 = nI (F i 2 (D - 1)) ∧ t.1 1234 i = nI (F i 2 (D - 1)) ∧ (∀ d, d < D → rK G F i d t) ∧ (∀ d, d + 1 < D → rQ G F x i d D s t) ∧ (∀ d, d < D → rM G F i d s t)
def CL (G : Nat → Nat → Nat) (F : Nat → Nat → Nat → Nat) (W : Nat → Nat → Nat) (B C x y i D : Nat) (s t : zσ) : Prop := RUNx i G F W B C x y s t ∧ rTa i s t ∧ rT1 G W i s t ∧ (∀ j, j < 8 → j ≠ i → rU2 W s i j ∧ rU2 W s j i) ∧ cF G F x i D s t
/-- levels only grow -/
theorem lev_le {D : Nat} (hK : ∀ d, d < D → rK G F i d t) : ∀ e d, d ≤ e → e < D → F i 2 d ≤ F i 2 e := by
  intro e
  induction e with
  | zero =>
    intro d h1 _
    rw [show d = 0 by omega]
    exact Nat.le_refl _
  | succ e ih =>
    intro d h1 h2
    by_cases q : d = e + 1
    · rw [q]; exact Nat.le_refl _
    · have h3 := ih d (by omega) (by omega)
      obtain ⟨-, -, -, -, -, h4⟩ := hK (e + 1) h2
      rcases h4 with ⟨h0, -⟩ | ⟨-, -, h5, -⟩ | ⟨-, -, h5, -⟩
      · omega
      · rw [Nat.add_sub_cancel] at h5; omega
      · rw [Nat.add_sub_cancel] at h5; omega
/-- the cells of task i that a move along its frames leaves alone -/
def kT (i : Nat) (s s2 t t2 : zσ) : Prop := (∀ k, k ≠ 10 → s2.1 (1036 + 3 * i) k = s.1 (1036 + 3 * i) k) ∧ (∀ a, 1225 ≤ a → a ≤ 1233 → t2.1 a i = t.1 a i)
theorem kT_a (h : kT i s s2 t t2) (ha : rTa i s t) : rTa i s2 t2 := by
  unfold rTa at ha ⊢
  rw [h.1 0 (by decide), h.1 6 (by decide), h.1 7 (by decide), h.1 8 (by decide), h.1 9 (by decide), h.2 1230 (by decide) (by decide), h.2 1231 (by decide) (by decide), h.2 1232 (by decide) (by decide), h.2 1233 (by decide) (by decide)]
  exact ha
theorem kT_1 (h : kT i s s2 t t2) (ha : rT1 G W i s t) : rT1 G W i s2 t2 := by
  unfold rT1 at ha ⊢
  rw [h.1 3 (by decide), h.1 4 (by decide), h.1 5 (by decide), h.1 11 (by decide), h.1 12 (by decide), h.2 1225 (by decide) (by decide), h.2 1226 (by decide) (by decide), h.2 1227 (by decide) (by decide), h.2 1228 (by decide) (by decide), h.2 1229 (by decide) (by decide)]
  exact ha
theorem kT_u (h : kT i s s2 t t2) (hi : i < 8) (o : oC i s s2) (ha : ∀ j, j < 8 → j ≠ i → rU2 W s i j ∧ rU2 W s j i) : ∀ j, j < 8 → j ≠ i → rU2 W s2 i j ∧ rU2 W s2 j i := by
  intro j hj hji
  have h3 := ha j hj hji
  unfold rU2 at h3 ⊢
  rw [h.1 3 (by decide), (oC_j hi hj hji o).1]
  exact h3
/-- the global parts, with the same ghosts -/
def gP (G W : Nat → Nat → Nat) (B C : Nat) (s t : zσ) : Prop := rA G s t ∧ rB B s t ∧ rV G s t ∧ rH G s t ∧ rC W C s t ∧ rE C s t
theorem gP_of {e : Nat} (h : RUNx e G F W B C x y s t) : gP G W B C s t := ⟨h.2.2.1.1, h.2.2.1.2.1, h.2.2.1.2.2.1, h.2.2.1.2.2.2.2.2.2.2.2.2.1, h.2.2.1.2.2.2.2.2.2.2.2.2.2, h.2.2.2.1⟩
theorem RUNx_gP {e B2 C2 : Nat} {W2 : Nat → Nat → Nat} {F2 : Nat → Nat → Nat → Nat} (hi : i < 8) (he : e = i ∨ e = 8) (h : RUNx e G F W B C x y s t) (h1 : oC i s s2) (h2 : oM i t t2) (hg : ∀ j, j < 8 → j ≠ i → sG1 j W W2 F F2) (hP : gP G W2 B2 C2 s2 t2) : RUNx i G F2 W2 B2 C2 x y s2 t2 := RUNx_go hi he h h1 h2 hg hP.1 hP.2.1 hP.2.2.1 hP.2.2.2.1 hP.2.2.2.2.1 hP.2.2.2.2.2
theorem sG1_rf {j : Nat} : sG1 j W W F F := ⟨fun _ _ => rfl, fun _ _ => rfl, Nat.le_refl _, Nat.le_refl _⟩
theorem CL_i {D : Nat} (h : CL G F W B C x y i D s t) : i < 8 := by
  have h1 := h.1.2.1.1.1 8 (by decide)
  have h2 := h.2.2.2.2.1
  omega
/-- done: the statement of the last frame is r -/
def Ft (F : Nat → Nat → Nat → Nat) (i D r : Nat) : Nat → Nat → Nat → Nat := fun j a d => if j = i ∧ a = 3 then D else if j = i ∧ a = 1 ∧ d + 1 = D then r else F j a d
theorem CL_done {D r : Nat} (h : CL G F W B C x y i D s t) (hr : r < G 0 0) (hb : G 1 r = F i 0 (D - 1)) (h1 : t.1 1237 (140 * i + (D - 1)) = nI r) (h2 : s.1 (1036 + 3 * i + 1) (F i 2 (D - 1)) = nI r) : RUN G (Ft F i D r) W B C x y s t := by
  have hi := CL_i h
  obtain ⟨hx, ha, hb1, hu, c1, c2, c3, c4, c5, c6, c7, c8, c9, c10, c11⟩ := h
  have hx2 : RUNx i G (Ft F i D r) W B C x y s t := RUNx_gP hi (Or.inl rfl) hx oC_rf oM_rf (fun j _ hj => ⟨fun a d => by simp [Ft, hj], fun _ _ => rfl, Nat.le_refl _, Nat.le_refl _⟩) (gP_of hx)
  refine RUN_of hx2 ⟨ha, hb1, ?_⟩ hu
  have f0 : ∀ d, Ft F i D r i 0 d = F i 0 d := fun d => by simp [Ft]
  have f2 : ∀ d, Ft F i D r i 2 d = F i 2 d := fun d => by simp [Ft]
  have f3 : ∀ d, Ft F i D r i 3 d = D := fun d => by simp [Ft]
  have f1 : ∀ d, d + 1 ≠ D → Ft F i D r i 1 d = F i 1 d := fun d hd => by simp [Ft, hd]
  have f1' : ∀ d, d + 1 = D → Ft F i D r i 1 d = r := fun d hd => by simp [Ft, hd]
  unfold rF1
  simp only [f3, f2]
  refine ⟨c4, c6, ⟨fun q => absurd q (zAc_0 c3), fun q => by omega⟩, fun q => by omega, fun _ => ⟨c2, c7, c8, fun q => absurd q (zAc_w c3)⟩, fun d hd => ⟨?_, ?_, ?_⟩⟩
  · have := c9 d hd
    unfold rK at this ⊢
    by_cases q : d = 0
    · subst q
      simp only [f0, f2]
      obtain ⟨a1, a2, a3, a4, a5, a6⟩ := this
      refine ⟨a1, a2, a3, a4, a5, ?_⟩
      rcases a6 with q | ⟨q, -⟩ | ⟨q, -⟩
      · exact Or.inl ⟨trivial, q.2⟩
      · omega
      · omega
    · simp only [f0, f2, f1 (d - 1) (by omega)]
      exact this
  · by_cases q : d + 1 = D
    · unfold rQ
      have e : D - 1 = d := by omega
      rw [e] at hb h1 h2
      simp only [f0, f2, f1' d q]
      exact ⟨hr, hb, h1, fun _ => h2, fun q2 => by omega⟩
    · have := c10 d (by omega)
      unfold rQ at this ⊢
      simp only [f0, f2, f1 d q]
      exact this
  · have := c11 d hd
    unfold rM at this ⊢
    simp only [f0, f2]
    exact this
/-- the class's place of the statement changes -/
theorem CL_at {D : Nat} {v : Int32} (h : CL G F W B C x y i D s t) : CL G F W B C x y i D (sI s (1036 + 3 * i + 1) (F i 2 (D - 1)) v) t := by
  have hi := CL_i h
  obtain ⟨hx, ha, hb1, hu, c1, c2, c3, c4, c5, c6, c7, c8, c9, c10, c11⟩ := h
  have hxx := hx.1.1
  have o : oC i s (sI s (1036 + 3 * i + 1) (F i 2 (D - 1)) v) := ⟨rfl, fun a _ _ _ _ _ _ _ _ => by simp (disch := omega) only [hIo]⟩
  have k : kT i s (sI s (1036 + 3 * i + 1) (F i 2 (D - 1)) v) t t := ⟨fun k _ => by simp (disch := omega) only [hIo], fun _ _ _ => rfl⟩
  obtain ⟨p1, p2, p3, p4, p5, p6⟩ := gP_of hx
  refine ⟨RUNx_gP hi (Or.inl rfl) hx o oM_rf (fun j _ _ => sG1_rf) ⟨?_, ?_, ?_, ?_, ?_, ?_⟩, kT_a k ha, kT_1 k hb1, kT_u k hi o hu, c1, c2, ?_, c4, c5, c6, ?_, c8, c9, fun d hd => ?_, fun d hd => ?_⟩
  · unfold rA at p1 ⊢; simp (disch := omega) only [hIo]; exact p1
  · unfold rB at p2 ⊢; simp (disch := omega) only [hIo]; exact p2
  · unfold rV at p3 ⊢; simp (disch := omega) only [hIo]; exact p3
  · unfold rH at p4 ⊢; simp (disch := omega) only [hIo]; exact p4
  · unfold rC at p5 ⊢; simp (disch := omega) only [hIo]; exact p5
  · unfold rE at p6 ⊢; simp (disch := omega) only [hIo]; exact p6
  · simp (disch := omega) only [hIo]; exact c3
  · simp (disch := omega) only [hIo]; exact c7
  · have hq := c10 d hd
    unfold rQ at hq ⊢
    have l1 := lev_le c9 (D - 1) (d + 1) (by omega) (by omega)
    simp (disch := omega) only [hIo]
    obtain ⟨a1, a2, a3, a4, a5⟩ := hq
    refine ⟨a1, a2, a3, fun q => ?_, a5⟩
    rcases q with q | q
    · omega
    · rw [hIk (by omega)]
      exact a4 (Or.inr q)
  · have hq := c11 d hd
    unfold rM at hq ⊢
    simp (disch := omega) only [hIo]
    exact hq
/-- the reference's -/
theorem CL_hand {D : Nat} {v : Int32} (h : CL G F W B C x y i D s t) : CL G F W B C x y i D s (sI t 1237 (140 * i + (D - 1)) v) := by
  have hi := CL_i h
  obtain ⟨hx, ha, hb1, hu, c1, c2, c3, c4, c5, c6, c7, c8, c9, c10, c11⟩ := h
  have o : oM i t (sI t 1237 (140 * i + (D - 1)) v) := ⟨rfl, fun _ _ => rfl, fun a _ _ _ => by simp (disch := omega) only [hIo], fun a j _ _ _ => by simp (disch := omega) only [hIx], fun a j d _ _ _ _ => by simp (disch := omega) only [hIx], fun j k _ _ => by simp (disch := omega) only [hIx], fun a _ _ => by simp (disch := omega) only [hIo], by simp (disch := omega) only [hIo, hIk]⟩
  have k : kT i s s t (sI t 1237 (140 * i + (D - 1)) v) := ⟨fun k _ => rfl, fun _ _ _ => by simp (disch := omega) only [hIx]⟩
  obtain ⟨p1, p2, p3, p4, p5, p6⟩ := gP_of hx
  refine ⟨RUNx_gP hi (Or.inl rfl) hx oC_rf o (fun j _ _ => sG1_rf) ⟨?_, ?_, ?_, ?_, ?_, ?_⟩, kT_a k ha, kT_1 k hb1, kT_u k hi oC_rf hu, c1, c2, c3, ?_, c5, c6, c7, ?_, fun d hd => ?_, fun d hd => ?_, fun d hd => ?_⟩
  · unfold rA at p1 ⊢; simp (disch := omega) only [hIo]; exact p1
  · unfold rB at p2 ⊢; simp (disch := omega) only [hIo]; exact p2
  · unfold rV at p3 ⊢; simp (disch := omega) only [hIo]; exact p3
  · unfold rH at p4 ⊢; simp (disch := omega) only [hIo]; exact p4
  · unfold rC at p5 ⊢; simp (disch := omega) only [hIo]; exact p5
  · unfold rE at p6 ⊢; simp (disch := omega) only [hIo]; exact p6
  · simp (disch := omega) only [hIo]; exact c4
  · simp (disch := omega) only [hIo]; exact c8
  · have hq := c9 d hd
    unfold rK at hq ⊢
    simp (disch := omega) only [hIo]
    exact hq
  · have hq := c10 d hd
    unfold rQ at hq ⊢
    rw [hIx (by omega)]
    exact hq
  · have hq := c11 d hd
    unfold rM at hq ⊢
    simp (disch := omega) only [hIo]
    exact hq
end ZMD
