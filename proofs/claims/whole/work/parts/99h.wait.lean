/-! a task waits, or asks and has -/
section ZWT
variable {G W : Nat → Nat → Nat} {F : Nat → Nat → Nat → Nat} {B C x y n o j : Nat} {s t : zσ}
/-- the stamps: task i waits from now on -/
def Ww (W : Nat → Nat → Nat) (i : Nat) : Nat → Nat → Nat := fun a j => if a = 1 ∧ j = i then W 4 0 + 1 else if a = 3 ∧ j = i then W 4 1 else if a = 4 ∧ j = 0 then W 4 0 + 1 else if a = 4 ∧ j = 1 then W 4 1 + 1 else W a j
theorem Ww_1 : Ww W o 1 o = W 4 0 + 1 := by simp [Ww]
theorem Ww_3 : Ww W o 3 o = W 4 1 := by simp [Ww]
theorem Ww_40 : Ww W o 4 0 = W 4 0 + 1 := by simp [Ww]
theorem Ww_41 : Ww W o 4 1 = W 4 1 + 1 := by simp [Ww]
theorem Ww_o {a : Nat} (ha : a < 4) (hj : j ≠ o) : Ww W o a j = W a j := by
  have h1 : ¬ a = 4 := by omega
  simp [Ww, hj, h1]
/-- the class's turn alone -/
def Wt (W : Nat → Nat → Nat) : Nat → Nat → Nat := fun a j => if a = 4 ∧ j = 0 then W 4 0 + 1 else W a j
theorem Wt_40 : Wt W 4 0 = W 4 0 + 1 := by simp [Wt]
theorem Wt_41 : Wt W 4 1 = W 4 1 := by simp [Wt]
theorem Wt_o {a : Nat} (ha : a < 4) : Wt W a j = W a j := by
  have h1 : ¬ a = 4 := by omega
  simp [Wt, h1]
/-- it waits -/
theorem wait_ok (h : RUN G F W B C x y s t) (ho : o < 8) (hC : C < 900000000) (ha : s.1 (1036 + 3 * o) 3 = 1) (hzk : zwK G (F o 1 (F o 3 0 - 1))) : RUN G F (Ww W o) B (C + 1) x y (sI (sI (sI s 1007 15 (nI (W 4 0 + 1))) (1036 + 3 * o) 12 (nI (W 4 0 + 1))) (1036 + 3 * o) 3 3) (sI (sI (sI t 1225 o 3) 1228 o (nI (W 4 1))) 1132 30 (nI (W 4 1 + 1))) := by
  have oc : oC o s (sI (sI (sI s 1007 15 (nI (W 4 0 + 1))) (1036 + 3 * o) 12 (nI (W 4 0 + 1))) (1036 + 3 * o) 3 3) := ⟨rfl, fun a _ _ _ _ _ _ _ _ => by simp (disch := omega) only [hIo]⟩
  have om : oM o t (sI (sI (sI t 1225 o 3) 1228 o (nI (W 4 1))) 1132 30 (nI (W 4 1 + 1))) := ⟨rfl, fun _ _ => rfl, fun a _ _ _ => by simp (disch := omega) only [hIo], fun a j _ _ _ => by simp (disch := omega) only [hIx], fun a j d _ _ _ _ => by simp (disch := omega) only [hIx], fun j k _ _ => by simp (disch := omega) only [hIx], fun a _ _ => by simp (disch := omega) only [hIo], by simp (disch := omega) only [hIo, hIk]⟩
  have hxx := h.1.1
  obtain ⟨p1, p2, p3, p4, p5, p6⟩ := gP_of h
  obtain ⟨w1, w2, w3, w4, w5⟩ := p5
  have hx2 : RUNx o G F (Ww W o) B (C + 1) x y (sI (sI (sI s 1007 15 (nI (W 4 0 + 1))) (1036 + 3 * o) 12 (nI (W 4 0 + 1))) (1036 + 3 * o) 3 3) (sI (sI (sI t 1225 o 3) 1228 o (nI (W 4 1))) 1132 30 (nI (W 4 1 + 1))) := by
    refine RUNx_gP ho (Or.inr rfl) h oc om (fun j _ hj => ⟨fun _ _ => rfl, fun a ha => Ww_o ha hj, by rw [Ww_40]; omega, by rw [Ww_41]; omega⟩) ⟨?_, ?_, ?_, ?_, ?_, ?_⟩
    · unfold rA at p1 ⊢; simp (disch := omega) only [hIo, hIk]; exact p1
    · unfold rB at p2 ⊢; simp (disch := omega) only [hIo, hIk]; exact p2
    · unfold rV at p3 ⊢; simp (disch := omega) only [hIo]; exact p3
    · unfold rH at p4 ⊢; simp (disch := omega) only [hIo, hIk]; exact p4
    · refine ⟨?_, ?_, by rw [Ww_40]; omega, by rw [Ww_41]; omega, by omega⟩
      · rw [Ww_40]; simp (disch := omega) only [hIo, hIe]
      · rw [Ww_41]; simp (disch := omega) only [hIe]
    · obtain ⟨e1, e2, e3⟩ := p6
      refine ⟨?_, ?_, W 4 1 + 1, by omega, ?_⟩
      · simp (disch := omega) only [hIo, hIk]; exact e1
      · simp (disch := omega) only [hIo, hIk]; exact e2
      · simp (disch := omega) only [hIe]
  obtain ⟨t1, tt1, t3⟩ := h.2.2.2.2.1 o ho (by omega)
  have h31 : (sI (sI (sI s 1007 15 (nI (W 4 0 + 1))) (1036 + 3 * o) 12 (nI (W 4 0 + 1))) (1036 + 3 * o) 3 3).1 (1036 + 3 * o) 3 = 3 := hIe
  have hF2 : rF1 G F x o (sI (sI (sI s 1007 15 (nI (W 4 0 + 1))) (1036 + 3 * o) 12 (nI (W 4 0 + 1))) (1036 + 3 * o) 3 3) (sI (sI (sI t 1225 o 3) 1228 o (nI (W 4 1))) 1132 30 (nI (W 4 1 + 1))) := by
    refine rF1_st (v := 0) t3 ?_ ?_ (fun _ => Or.inr hzk) (by simp (disch := omega) only [hIo, hIk]) (by simp (disch := omega) only [hIo]) (by simp (disch := omega) only [hIo]) (by simp (disch := omega) only [hIo]) (fun a ha => by simp (disch := omega) only [hIx]) (fun a q1 q2 => by simp (disch := omega) only [hIo])
    · rw [ha]; decide
    · rw [h31]; decide
  refine RUN_of hx2 ⟨?_, ?_, hF2⟩ (fun j hj hji => ?_)
  · unfold rTa at t1 ⊢
    simp (disch := omega) only [hIo, hIk]
    exact t1
  · obtain ⟨a', k, b1, b2, b3, b4, b5, b6, b7, b8, b9, b10, b11⟩ := tt1
    have eaa : a' = 1 := (neq1 (Nat.lt_of_le_of_lt b1 (by decide))).mp (b2.symm.trans ha)
    subst eaa
    have n7 : (1036 + 3 * o : Nat) ≠ 1007 := by clear b8 b9 b10 b11; omega
    refine ⟨3, k, by decide, h31, ?_, fun q => absurd (b4 q) (by decide), b5, ?_, ?_, fun q => absurd q (by decide), fun _ => ?_, fun q => absurd q (by decide), fun _ => ⟨?_, ?_, ?_, ?_⟩⟩
    · rw [hIo (by decide), hIo (by decide), hIe]; rfl
    · rw [hIk (by decide), hIk (by decide), hIo n7]; exact b6
    · rw [hIo (by decide), hIo (by decide), hIo (by decide)]; exact b7
    · rw [hIk (by decide), hIk (by decide), hIo n7, hIo (by decide), hIo (by decide), hIo (by decide)]
      exact b9 (by decide)
    · rw [Ww_1, hIk (by decide), hIe]
    · rw [Ww_3, hIo (by decide), hIe]
    · rw [Ww_1, Ww_40]; exact Nat.le_refl _
    · rw [Ww_3, Ww_41]; exact Nat.lt_succ_self _
  · have ej := (oC_j ho hj hji oc).1
    have key : (s.1 (1036 + 3 * j) 3 = 3 ∨ s.1 (1036 + 3 * j) 3 = 4) → W 1 j ≤ W 4 0 ∧ W 3 j < W 4 1 := by
      intro q
      obtain ⟨-, ⟨a, kk, a4, t1, t2, -, -, -, -, -, -, -, t11⟩, -⟩ := h.2.2.2.2.1 j hj (by omega)
      have a31 : a < 2 ^ 31 := Nat.lt_of_le_of_lt a4 (by decide)
      have : a = 3 ∨ a = 4 := by
        rcases q with q | q
        · exact Or.inl ((neqN (b := 3) a31 (by decide)).mp (t1.symm.trans q))
        · exact Or.inr ((neqN (b := 4) a31 (by decide)).mp (t1.symm.trans q))
      have := t11 this
      exact ⟨this.2.2.1, this.2.2.2⟩
    unfold rU2
    rw [ej, h31, Ww_1, Ww_3, Ww_o (a := 1) (by decide) hji, Ww_o (a := 3) (by decide) hji]
    refine ⟨fun _ => ⟨fun q => absurd q (by decide), fun _ q => ?_⟩, fun _ => ⟨fun _ q => absurd q (by decide), fun q _ => ?_⟩⟩
    · have := key q
      omega
    · have := key q
      omega
/-- it asks and has: the class counts its turn -/
theorem asks_ok (h : RUN G F W B C x y s t) (ho : o < 8) (hC : C < 900000000) (ha : s.1 (1036 + 3 * o) 3 = 1) : RUN G F (Wt W) B (C + 1) x y (sI (sI s 1007 15 (nI (W 4 0 + 1))) (1036 + 3 * o) 12 (nI (W 4 0 + 1))) t := by
  have oc : oC o s (sI (sI s 1007 15 (nI (W 4 0 + 1))) (1036 + 3 * o) 12 (nI (W 4 0 + 1))) := ⟨rfl, fun a _ _ _ _ _ _ _ _ => by simp (disch := omega) only [hIo]⟩
  have om : oM o t t := oM_rf
  have hxx := h.1.1
  obtain ⟨p1, p2, p3, p4, p5, p6⟩ := gP_of h
  obtain ⟨w1, w2, w3, w4, w5⟩ := p5
  have hx2 : RUNx o G F (Wt W) B (C + 1) x y (sI (sI s 1007 15 (nI (W 4 0 + 1))) (1036 + 3 * o) 12 (nI (W 4 0 + 1))) t := by
    refine RUNx_gP ho (Or.inr rfl) h oc om (fun j _ hj => ⟨fun _ _ => rfl, fun a ha => Wt_o ha, by rw [Wt_40]; omega, by rw [Wt_41]; omega⟩) ⟨?_, ?_, ?_, ?_, ?_, ?_⟩
    · unfold rA at p1 ⊢; simp (disch := omega) only [hIo, hIk]; exact p1
    · unfold rB at p2 ⊢; simp (disch := omega) only [hIo, hIk]; exact p2
    · unfold rV at p3 ⊢; simp (disch := omega) only [hIo]; exact p3
    · unfold rH at p4 ⊢; simp (disch := omega) only [hIo, hIk]; exact p4
    · refine ⟨?_, by rw [Wt_41]; exact w2, by rw [Wt_40]; omega, by rw [Wt_41]; omega, by omega⟩
      rw [Wt_40]; simp (disch := omega) only [hIo, hIe]
    · obtain ⟨e1, e2, m, e3, e4⟩ := p6
      refine ⟨?_, ?_, m, by omega, e4⟩
      · simp (disch := omega) only [hIo, hIk]; exact e1
      · simp (disch := omega) only [hIo, hIk]; exact e2
  obtain ⟨t1, tt1, t3⟩ := h.2.2.2.2.1 o ho (by omega)
  have h31 : (sI (sI s 1007 15 (nI (W 4 0 + 1))) (1036 + 3 * o) 12 (nI (W 4 0 + 1))).1 (1036 + 3 * o) 3 = 1 := by
    rw [hIk (by decide), hIo (by omega)]
    exact ha
  have hF2 : rF1 G F x o (sI (sI s 1007 15 (nI (W 4 0 + 1))) (1036 + 3 * o) 12 (nI (W 4 0 + 1))) t := by
    refine rF1_st (v := 0) t3 ?_ ?_ (by rw [h31]; exact fun q => absurd q (by decide)) (by simp (disch := omega) only [hIo, hIk]) (by simp (disch := omega) only [hIo]) (by simp (disch := omega) only [hIo]) (by simp (disch := omega) only [hIo]) (fun a ha => rfl) (fun a q1 q2 => rfl)
    · rw [ha]; decide
    · rw [h31]; decide
  refine RUN_of hx2 ⟨?_, ?_, hF2⟩ (fun j hj hji => ?_)
  · unfold rTa at t1 ⊢
    simp (disch := omega) only [hIo, hIk]
    exact t1
  · obtain ⟨a', k, b1, b2, b3, b4, b5, b6, b7, b8, b9, b10, b11⟩ := tt1
    have eaa : a' = 1 := (neq1 (Nat.lt_of_le_of_lt b1 (by decide))).mp (b2.symm.trans ha)
    subst eaa
    have n7 : (1036 + 3 * o : Nat) ≠ 1007 := by clear b8 b9 b10 b11; omega
    refine ⟨1, k, by decide, h31, b3, b4, b5, ?_, b7, b8, fun q => ?_, fun q => ?_, fun q => by omega⟩
    · rw [hIk (by decide), hIo n7]; exact b6
    · rw [hIk (by decide), hIo n7]; exact b9 q
    · obtain ⟨c1, c2, c3, c4⟩ := b10 q
      rw [hIk (by decide), hIo n7, Wt_o (by decide), Wt_o (by decide), Wt_40, Wt_41]
      exact ⟨c1, c2, by omega, c4⟩
  · have ej := (oC_j ho hj hji oc).1
    have u1 := h.2.2.2.2.2 o j ho hj (by omega) (by omega)
    have u2 := h.2.2.2.2.2 j o hj ho (by omega) (by omega)
    unfold rU2 at u1 u2 ⊢
    rw [ej, h31, Wt_o (a := 0) (by decide), Wt_o (a := 1) (by decide), Wt_o (a := 2) (by decide), Wt_o (a := 3) (by decide), Wt_o (a := 0) (by decide), Wt_o (a := 1) (by decide), Wt_o (a := 2) (by decide), Wt_o (a := 3) (by decide)]
    rw [ha] at u1 u2
    exact ⟨u1, u2⟩
end ZWT
