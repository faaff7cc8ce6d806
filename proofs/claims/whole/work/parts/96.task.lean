/-! acts on a task o: hold, prior, start, go -/
section ZTK
variable {G W : Nat → Nat → Nat} {F : Nat → Nat → Nat → Nat} {B C x y n o : Nat} {s t : zσ}
/-- what an act on a task makes of a run -/
def tR (G : Nat → Nat → Nat) (W : Nat → Nat → Nat) (B C x y o : Nat) (s t : zσ) (a b : Option zσ) : Prop := ∃ s2 t2 F2 W2 C2, a = some s2 ∧ b = some t2 ∧ RUN G F2 W2 B C2 x y s2 t2 ∧ C2 ≤ C + 2 ∧ oC o s s2 ∧ oM o t t2
theorem sG1_Wr {j : Nat} (hj : j ≠ o) : sG1 j W (Wr W o) F F := ⟨fun _ _ => rfl, fun a ha => Wr_o ha hj, by rw [Wr_40]; omega, by rw [Wr_41]; omega⟩
/-- the frames, with another state that is none of dormant -/
theorem rF1_st {v : Int32} {s2 t2 : zσ} (hf : rF1 G F x o s t) (h0 : ¬ s.1 (1036 + 3 * o) 3 = 0) (hv : ¬ s2.1 (1036 + 3 * o) 3 = 0) (hk : s2.1 (1036 + 3 * o) 3 = 3 ∨ s2.1 (1036 + 3 * o) 3 = 4 → (s.1 (1036 + 3 * o) 3 = 3 ∨ s.1 (1036 + 3 * o) 3 = 4) ∨ zwK G (F o 1 (F o 3 0 - 1))) (h10 : s2.1 (1036 + 3 * o) 10 = s.1 (1036 + 3 * o) 10) (h1 : s2.1 (1036 + 3 * o + 1) = s.1 (1036 + 3 * o + 1)) (h2 : s2.1 (1036 + 3 * o + 2) = s.1 (1036 + 3 * o + 2)) (hx : s2.1 (x + 22) = s.1 (x + 22)) (hm : ∀ a, a = 1234 ∨ a = 1235 → t2.1 a o = t.1 a o) (hm2 : ∀ a, 1236 ≤ a → a ≤ 1239 → t2.1 a = t.1 a) : rF1 G F x o s2 t2 := by
  obtain ⟨a1, a2, a3, a4, a5, a6⟩ := hf
  refine ⟨by rw [hm 1235 (Or.inr rfl)]; exact a1, a2, ⟨fun q => absurd q hv, fun q => absurd (a3.mpr q) h0⟩, by rw [h10, hm 1234 (Or.inl rfl)]; exact a4, by rw [h10, hm 1234 (Or.inl rfl)]; exact fun q => ⟨(a5 q).1, (a5 q).2.1, (a5 q).2.2.1, fun q2 => (hk q2).elim (fun q3 => (a5 q).2.2.2 q3) id⟩, fun d hd => ?_⟩
  obtain ⟨k1, q1, r1⟩ := a6 d hd
  refine ⟨?_, ?_, ?_⟩
  · unfold rK at k1 ⊢
    rw [hm2 1236 (by decide) (by decide), hm2 1238 (by decide) (by decide)]
    exact k1
  · unfold rQ at q1 ⊢
    rw [h1, hx, hm2 1237 (by decide) (by decide)]
    exact q1
  · unfold rM at r1 ⊢
    rw [h2, hm2 1239 (by decide) (by decide)]
    exact r1
/-- a change of the state of task o, from a to b, with the same stamps: both are none of dormant; ready is none of the new ones -/
theorem st_ok {a b : Nat} (h : RUN G F W B C x y s t) (ho : o < 8) (ha : s.1 (1036 + 3 * o) 3 = nI a) (hab : (a = 1 ∧ b = 2) ∨ (a = 3 ∧ b = 4) ∨ (a = 4 ∧ b = 3)) : RUN G F W B C x y (sI s (1036 + 3 * o) 3 (nI b)) (sI t 1225 o (nI b)) ∧ oC o s (sI s (1036 + 3 * o) 3 (nI b)) ∧ oM o t (sI t 1225 o (nI b)) := by
  have oc : oC o s (sI s (1036 + 3 * o) 3 (nI b)) := ⟨rfl, fun a _ _ _ _ _ _ _ _ => by simp (disch := omega) only [hIo]⟩
  have om : oM o t (sI t 1225 o (nI b)) := ⟨rfl, fun _ _ => rfl, fun a _ _ _ => by simp (disch := omega) only [hIo], fun a j _ _ _ => by simp (disch := omega) only [hIx], fun a j d _ _ _ _ => by simp (disch := omega) only [hIx], fun j k _ _ => by simp (disch := omega) only [hIx], fun a _ _ => by simp (disch := omega) only [hIo], by simp (disch := omega) only [hIo, hIk]⟩
  have hxx := h.1.1
  obtain ⟨p1, p2, p3, p4, p5, p6⟩ := gP_of h
  have hx2 : RUNx o G F W B C x y (sI s (1036 + 3 * o) 3 (nI b)) (sI t 1225 o (nI b)) := by
    refine RUNx_gP ho (Or.inr rfl) h oc om (fun j _ _ => sG1_rf) ⟨?_, ?_, ?_, ?_, ?_, ?_⟩
    · unfold rA at p1 ⊢; simp (disch := omega) only [hIo]; exact p1
    · unfold rB at p2 ⊢; simp (disch := omega) only [hIo]; exact p2
    · unfold rV at p3 ⊢; simp (disch := omega) only [hIo]; exact p3
    · unfold rH at p4 ⊢; simp (disch := omega) only [hIo]; exact p4
    · unfold rC at p5 ⊢; simp (disch := omega) only [hIo]; exact p5
    · unfold rE at p6 ⊢; simp (disch := omega) only [hIo]; exact p6
  obtain ⟨t1, tt1, t3⟩ := h.2.2.2.2.1 o ho (by omega)
  have a31 : a < 2 ^ 31 := by omega
  have na0 : ¬ nI a = 0 := fun q => by have := (neq0 a31).mp q; omega
  have nb0 : ¬ nI b = 0 := fun q => by have := (neq0 (show b < 2 ^ 31 by omega)).mp q; omega
  have hF2 : rF1 G F x o (sI s (1036 + 3 * o) 3 (nI b)) (sI t 1225 o (nI b)) := by
    refine rF1_st (v := 0) t3 ?_ ?_ ?_ (hIk (by decide)) (hIo (by omega)) (hIo (by omega)) (hIo (by omega)) (fun a ha => by rw [hIo (by omega)]) (fun a q1 q2 => hIo (by omega))
    · rw [ha]; exact na0
    · rw [hIe]; exact nb0
    · rw [hIe, ha]
      intro q
      left
      rcases hab with ⟨-, q2⟩ | ⟨q1, -⟩ | ⟨q1, -⟩
      · rw [q2] at q; exact absurd q (by decide)
      · left; rw [q1]; rfl
      · right; rw [q1]; rfl
  have hbb : b ≤ 4 ∧ b ≠ 0 ∧ b ≠ 1 ∧ (b = 3 ∨ b = 4 → a = 3 ∨ a = 4) ∧ a ≠ 0 := by omega
  obtain ⟨hb4, hb0, hb1, hb34, ha0⟩ := hbb
  obtain ⟨a', k, b1, b2, b3, b4, b5, b6, b7, b8, b9, b10, b11⟩ := tt1
  have eaa : a' = a := (neqN (Nat.lt_of_le_of_lt b1 (by decide)) a31).mp (b2.symm.trans ha)
  subst eaa
  refine ⟨RUN_of hx2 ⟨?_, ?_, ?_⟩ (fun j hj hji => ?_), oc, om⟩
  · unfold rTa at t1 ⊢
    simp (disch := omega) only [hIo, hIk]
    exact t1
  · refine ⟨b, k, hb4, hIe, hIe, fun q => absurd (b4 q) ha0, b5, ?_, ?_, fun q => absurd q hb0, fun _ => ?_, fun q => absurd q hb1, fun q => ?_⟩
    · rw [hIk (by decide)]; exact b6
    · rw [hIo (by decide)]; exact b7
    · rw [hIk (by decide), hIo (by decide)]
      exact b9 ha0
    · rw [hIk (by decide), hIo (by decide)]
      exact b11 (hb34 q)
  · exact hF2
  · have u1 := h.2.2.2.2.2 o j ho hj (by omega) (by omega)
    have u2 := h.2.2.2.2.2 j o hj ho (by omega) (by omega)
    clear b8 b9 b10 b11
    have ej : (sI s (1036 + 3 * o) 3 (nI b)).1 (1036 + 3 * j) 3 = s.1 (1036 + 3 * j) 3 := by rw [hIo (by omega)]
    have n1 : ¬ nI b = 1 ∨ b = 1 := by
      by_cases q : b = 1
      · exact Or.inr q
      · exact Or.inl (fun e => q ((neq1 (by omega)).mp e))
    have w34 : (nI b = 3 ∨ nI b = 4) → (s.1 (1036 + 3 * o) 3 = 3 ∨ s.1 (1036 + 3 * o) 3 = 4) := by
      intro q
      have qb : b = 3 ∨ b = 4 := by
        rcases q with q | q
        · exact Or.inl ((neq3 (by omega)).mp q)
        · exact Or.inr ((neq4 (by omega)).mp q)
      rw [b2]
      rcases hab with ⟨-, q2⟩ | ⟨q1, -⟩ | ⟨q1, -⟩
      · omega
      · left; rw [q1]; rfl
      · right; rw [q1]; rfl
    unfold rU2 at u1 u2 ⊢
    rw [ej, hIe]
    refine ⟨fun q => ⟨fun q1 => ?_, fun q1 q2 => (u1 q).2 (w34 q1) q2⟩, fun q => ⟨fun _ q1 => ?_, fun q1 q2 => (u2 q).2 q1 (w34 q2)⟩⟩
    · rcases n1 with n1 | n1
      · exact absurd q1 n1
      · omega
    · rcases n1 with n1 | n1
      · exact absurd q1 n1
      · omega
/-- a held task becomes ready -/
theorem go_ok2 (h : RUN G F W B C x y s t) (ho : o < 8) (hC : C < 900000000) (ha : s.1 (1036 + 3 * o) 3 = 2) : RUN G F (Wr W o) B (C + 1) x y (sI (sI (sI s (1036 + 3 * o) 3 1) 1007 15 (nI (W 4 0 + 1))) (1036 + 3 * o) 11 (nI (W 4 0 + 1))) (sI (sI (sI t 1225 o 1) 1227 o (nI (W 4 1))) 1132 30 (nI (W 4 1 + 1))) ∧ oC o s (sI (sI (sI s (1036 + 3 * o) 3 1) 1007 15 (nI (W 4 0 + 1))) (1036 + 3 * o) 11 (nI (W 4 0 + 1))) ∧ oM o t (sI (sI (sI t 1225 o 1) 1227 o (nI (W 4 1))) 1132 30 (nI (W 4 1 + 1))) := by
  have oc : oC o s (sI (sI (sI s (1036 + 3 * o) 3 1) 1007 15 (nI (W 4 0 + 1))) (1036 + 3 * o) 11 (nI (W 4 0 + 1))) := ⟨rfl, fun a _ _ _ _ _ _ _ _ => by simp (disch := omega) only [hIo]⟩
  have om : oM o t (sI (sI (sI t 1225 o 1) 1227 o (nI (W 4 1))) 1132 30 (nI (W 4 1 + 1))) := ⟨rfl, fun _ _ => rfl, fun a _ _ _ => by simp (disch := omega) only [hIo], fun a j _ _ _ => by simp (disch := omega) only [hIx], fun a j d _ _ _ _ => by simp (disch := omega) only [hIx], fun j k _ _ => by simp (disch := omega) only [hIx], fun a _ _ => by simp (disch := omega) only [hIo], by simp (disch := omega) only [hIo, hIk]⟩
  have hxx := h.1.1
  obtain ⟨p1, p2, p3, p4, p5, p6⟩ := gP_of h
  obtain ⟨w1, w2, w3, w4, w5⟩ := p5
  have hx2 : RUNx o G F (Wr W o) B (C + 1) x y (sI (sI (sI s (1036 + 3 * o) 3 1) 1007 15 (nI (W 4 0 + 1))) (1036 + 3 * o) 11 (nI (W 4 0 + 1))) (sI (sI (sI t 1225 o 1) 1227 o (nI (W 4 1))) 1132 30 (nI (W 4 1 + 1))) := by
    refine RUNx_gP ho (Or.inr rfl) h oc om (fun j _ hj => sG1_Wr hj) ⟨?_, ?_, ?_, ?_, ?_, ?_⟩
    · unfold rA at p1 ⊢; simp (disch := omega) only [hIo, hIk]; exact p1
    · unfold rB at p2 ⊢; simp (disch := omega) only [hIo, hIk]; exact p2
    · unfold rV at p3 ⊢; simp (disch := omega) only [hIo]; exact p3
    · unfold rH at p4 ⊢; simp (disch := omega) only [hIo, hIk]; exact p4
    · refine ⟨?_, ?_, by rw [Wr_40]; omega, by rw [Wr_41]; omega, by omega⟩
      · rw [Wr_40]; simp (disch := omega) only [hIo, hIe]
      · rw [Wr_41]; simp (disch := omega) only [hIe]
    · obtain ⟨e1, e2, e3⟩ := p6
      refine ⟨?_, ?_, W 4 1 + 1, by omega, ?_⟩
      · simp (disch := omega) only [hIo, hIk]; exact e1
      · simp (disch := omega) only [hIo, hIk]; exact e2
      · simp (disch := omega) only [hIe]
  obtain ⟨t1, tt1, t3⟩ := h.2.2.2.2.1 o ho (by omega)
  have h31 : (sI (sI (sI s (1036 + 3 * o) 3 1) 1007 15 (nI (W 4 0 + 1))) (1036 + 3 * o) 11 (nI (W 4 0 + 1))).1 (1036 + 3 * o) 3 = 1 := by simp (disch := omega) only [hIo, hIk, hIe]
  have hF2 : rF1 G F x o (sI (sI (sI s (1036 + 3 * o) 3 1) 1007 15 (nI (W 4 0 + 1))) (1036 + 3 * o) 11 (nI (W 4 0 + 1))) (sI (sI (sI t 1225 o 1) 1227 o (nI (W 4 1))) 1132 30 (nI (W 4 1 + 1))) := by
    refine rF1_st (v := 0) t3 ?_ ?_ (by rw [h31]; exact fun q => absurd q (by decide)) (by simp (disch := omega) only [hIo, hIk]) (by simp (disch := omega) only [hIo]) (by simp (disch := omega) only [hIo]) (by simp (disch := omega) only [hIo]) (fun a ha => by simp (disch := omega) only [hIx]) (fun a q1 q2 => by simp (disch := omega) only [hIo])
    · rw [ha]; decide
    · rw [h31]; decide
  refine ⟨RUN_of hx2 ⟨?_, ?_, hF2⟩ (rU_r (t := sI (sI (sI t 1225 o 1) 1227 o (nI (W 4 1))) 1132 30 (nI (W 4 1 + 1))) (G := G) ho h31 (fun j hj hji => (hx2.2.2.2.2.1 j hj hji).2.1) (fun j hj hji h1 => ?_)), oc, om⟩
  · unfold rTa at t1 ⊢
    simp (disch := omega) only [hIo, hIk]
    exact t1
  · obtain ⟨a', k, b1, b2, b3, b4, b5, b6, b7, b8, b9, b10, b11⟩ := tt1
    have eaa : a' = 2 := (neq2 (Nat.lt_of_le_of_lt b1 (by decide))).mp (b2.symm.trans ha)
    subst eaa
    have n7 : (1036 + 3 * o : Nat) ≠ 1007 := by clear b8 b9 b10 b11; omega
    refine ⟨1, k, by decide, h31, ?_, fun q => absurd (b4 q) (by decide), b5, ?_, ?_, fun q => absurd q (by decide), fun _ => ?_, fun _ => ⟨?_, ?_, ?_, ?_⟩, fun q => absurd q (by decide)⟩
    · rw [hIo (by decide), hIo (by decide), hIe]; rfl
    · rw [hIk (by decide), hIo n7, hIk (by decide)]; exact b6
    · rw [hIo (by decide), hIo (by decide), hIo (by decide)]; exact b7
    · rw [hIk (by decide), hIo n7, hIk (by decide), hIo (by decide), hIo (by decide), hIo (by decide)]
      exact b9 (by decide)
    · rw [Wr_0, hIe]
    · rw [Wr_2, hIo (by decide), hIe]
    · rw [Wr_0, Wr_40]; exact Nat.le_refl _
    · rw [Wr_2, Wr_41]; exact Nat.lt_succ_self _
  · rw [(oC_j ho hj hji oc).1] at h1
    obtain ⟨-, ⟨a, kk, a4, t1, t2, -, -, -, -, -, -, t10, -⟩, -⟩ := h.2.2.2.2.1 j hj (by omega)
    rw [t1] at h1
    have := t10 ((neq1 (by omega)).mp h1)
    exact ⟨this.2.2.1, this.2.2.2⟩
end ZTK
