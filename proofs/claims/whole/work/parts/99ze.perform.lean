/-! one statement of a task, with the serving behind it -/
section ZCL
variable {G W W2 : Nat → Nat → Nat} {F F2 : Nat → Nat → Nat → Nat} {B C C2 x y n i j o k v p D r : Nat} {s t s2 t2 : zσ}
theorem act_all (hb : bR B C n) (hC : C < 799999000) (h : aH G F W B C x y i D r s t) (h69 : t.1 1132 69 = 0) (ha : s.1 (1036 + 3 * i) 3 = 1) (hN : Nob n x s) : pR G B C x y (cP n i r s) (mP n i r t) := by
  have kr := tO_r (aH_k h).2.2.2.2.2.2.1
  have hC2 : C < 799999999 := by omega
  by_cases q1 : G 10 r = 1
  · exact act_1 hb h h69 q1
  by_cases q2 : G 10 r = 2
  · exact act_2 hb h h69 q2
  by_cases q3 : G 10 r = 3
  · exact act_3 hb h h69 q3
  by_cases q4 : G 10 r = 4
  · exact act_4 hb h h69 q4
  by_cases q5 : G 10 r = 5 ∨ G 10 r = 6
  · exact act_5 hb h h69 q5
  by_cases q7 : G 10 r = 7
  · exact act_7 hb h h69 q7
  by_cases q8 : G 10 r = 8
  · exact act_8 hb h h69 q8
  by_cases q9 : G 10 r = 9
  · exact act_9 hb h h69 q9
  by_cases q10 : G 10 r = 10
  · exact act_10 hb hC2 h h69 q10 ha
  by_cases q11 : G 10 r = 11
  · exact act_11 hb h h69 q11
  by_cases q12 : G 10 r = 12
  · exact act_12 hb hC2 h h69 q12 ha
  by_cases q13 : G 10 r = 13
  · exact act_13 hb h h69 q13
  by_cases q14 : G 10 r = 14
  · exact act_14 hb hC2 h h69 q14 ha
  by_cases q15 : G 10 r = 15
  · exact act_15 hb h h69 q15
  by_cases q16 : G 10 r = 16
  · exact act_16 hb hC2 h h69 q16
  by_cases q17 : G 10 r = 17
  · exact act_17 hb hC2 h h69 q17
  by_cases q18 : G 10 r = 18
  · exact act_18 hb hC2 h h69 q18
  by_cases q19 : G 10 r = 19
  · exact act_19 hb hC2 h h69 q19
  by_cases q20 : G 10 r = 20
  · exact act_20 hb hC2 h h69 q20
  by_cases q21 : G 10 r = 21
  · exact act_21 hb h h69 q21
  by_cases q22 : G 10 r = 22
  · exact act_22 hb h h69 q22
  by_cases q23 : G 10 r = 23
  · exact act_23 hb hC2 h h69 q23 ha
  by_cases q24 : G 10 r = 24
  · exact act_24 hb h h69 q24
  by_cases q25 : G 10 r = 25
  · exact act_25 hb hC h h69 q25 ha hN
  by_cases q26 : G 10 r = 26
  · exact act_26 hb hC h h69 q26 ha hN
  by_cases q27 : G 10 r = 27
  · exact act_27 hb h h69 q27
  · exact act_28 hb h h69 (by omega)
/-- one more statement is counted -/
theorem cnt_ok (h : RUN G F W B C x y s t) : RUN G F W B C x y (sI s 1030 7 (s.1 1030 7 + 1)) (sI t 1132 22 (t.1 1132 22 + 1)) := by
  have hxx := h.1.1
  have hyy := h.1.2.1
  obtain ⟨d1, d2, d3, d4, d5, d6, d7, d8, d9, d10, d11⟩ := id h.2.2.1
  have dE := h.2.2.2.1
  refine RUNx_glob h ⟨rfl, fun a ha => hIo (by omega)⟩ ⟨rfl, fun a q1 q2 q3 => hIo (by omega), by rw [hIk (by decide)]⟩ ⟨?_, ?_, ?_, ?_, ?_, ?_, ?_, ?_, ?_, ?_, ?_⟩ ?_
  · obtain ⟨a1, a2, a3, a4, a5⟩ := d1
    unfold rA
    simp (disch := omega) only [hIo, hIk, hIe]
    exact ⟨a1, a2, a3, by rw [a4], a5⟩
  · unfold rB at d2 ⊢; simp (disch := omega) only [hIo, hIk]; exact d2
  · unfold rV at d3 ⊢; simp (disch := omega) only [hIo, hIk]; exact d3
  · unfold rW at d4 ⊢; simp (disch := omega) only [hIo, hIk]; exact d4
  · unfold rS at d5 ⊢; simp (disch := omega) only [hIo, hIk]; exact d5
  · unfold rL at d6 ⊢; simp (disch := omega) only [hIo, hIk]; exact d6
  · unfold rI at d7 ⊢; simp (disch := omega) only [hIo, hIk]; exact d7
  · unfold rO at d8 ⊢; simp (disch := omega) only [hIo, hIk]; exact d8
  · unfold rP at d9 ⊢; simp (disch := omega) only [hIo, hIk]; exact d9
  · unfold rH at d10 ⊢; simp (disch := omega) only [hIo, hIk]; exact d10
  · unfold rC at d11 ⊢; simp (disch := omega) only [hIo, hIk]; exact d11
  · unfold rE at dE ⊢; simp (disch := omega) only [hIo, hIk]; exact dE
theorem perf_ok (hb : bR B C n) (hC : C < 799998000) (h : RUN G F W B C x y s t) (hN : Nob n x s) (hi : i < 8) (ha : s.1 (1036 + 3 * i) 3 = 1) : ∃ s2 t2 F2 W2 B2 C2, (yb0 (f89 n (1036 + 3 * i) s) fun u3 => f132 n u3) = some s2 ∧ f241 n (nI i) t = some t2 ∧ RUN G F2 W2 B2 C2 x y s2 t2 ∧ B2 ≤ B + 1 ∧ C2 ≤ C + 96 ∧ Nob n x s2 := by
  have hn := hb.1
  have hxx := h.1.1
  have n2 := h.2.1.1.2.2.1.2.2.1
  have h1 := cnt_ok h
  have h2 : RUN G F W B C x y (sI s 1030 7 (s.1 1030 7 + 1)) (sI (sI t 1132 22 (t.1 1132 22 + 1)) 1132 69 0) := RUNx_sc (t := sI t 1132 22 (t.1 1132 22 + 1)) scC_rf ⟨rfl, fun _ _ => rfl, fun a k _ _ _ q => by rw [hIx q]⟩ h1
  have ha2 : (sI s 1030 7 (s.1 1030 7 + 1)).1 (1036 + 3 * i) 3 = 1 := by rw [hIo (by omega)]; exact ha
  have hN2 : Nob n x (sI s 1030 7 (s.1 1030 7 + 1)) := Nob_ag hxx hN (fun a ha => hIo (by omega))
  have hA : aH G F W B C x y i (F i 3 0) (F i 1 (F i 3 0 - 1)) (sI s 1030 7 (s.1 1030 7 + 1)) (sI (sI t 1132 22 (t.1 1132 22 + 1)) 1132 69 0) := CL_of h2 hi (by rw [ha2]; decide)
  obtain ⟨s3, t3, F3, W3, B3, C3, p1, p2, p3, p4, p5⟩ := act_all hb (by omega) hA hIe ha2 hN2
  obtain ⟨s4, t4, F4, W4, C4, v1, v2, v3, v4, v5, v6⟩ := serve_ok hn (by omega) p3
  obtain ⟨q, d, a1, a2, a3, a4, a5, a6, a7⟩ := at_st (n := n) h hi (by rw [ha]; decide)
  have eq : q = F i 1 (F i 3 0 - 1) := by
    have hr := aH_r hA
    have e4 := hA.2.2.2.2
    have c7 := hA.1.2.2.2.2.2.2.2.2.2.2.1
    rw [hIo (by omega)] at e4 c7
    rw [c7, nxN (by have := (hA.1.2.2.2.2.2.2.2.2.2.2.2.2.1 (F i 3 0 - 1) (by have := hA.1.2.2.2.2.2.2.2.2.1; omega)).2.2.2.1; omega), e4] at a4
    exact ((neqN (by omega) (by omega)).mp a4).symm
  refine ⟨s4, t4, F4, W4, B3, C4, ?_, ?_, v3, p4, by omega, v5⟩
  · have e : f89 n (1036 + 3 * i) s = cP n i (F i 1 (F i 3 0 - 1)) (sI s 1030 7 (s.1 1030 7 + 1)) := by
      unfold f89 cP
      rw [if_pos a3, zlet, a4, eq, zlet]
    rw [e, p1, gy0, v1]
  · have e : f241 n (nI i) t = yb0 (mP n i (F i 1 (F i 3 0 - 1)) (sI (sI t 1132 22 (t.1 1132 22 + 1)) 1132 69 0)) fun u => f241_45 n u := by
      unfold f241 mP
      rw [a5, gy1, if_pos ((zinN (by omega)).mpr a6), zlet, nxN (show d < 2 ^ 31 by omega), a7, eq, zlet, zlet]
      cases f242 n (nI i) (nI (F i 1 (F i 3 0 - 1))) (sI (sI t 1132 22 (t.1 1132 22 + 1)) 1132 69 0) with
      | none => rfl
      | some u6 =>
        rw [gy0, gy0]
        split <;> rfl
    rw [e, p2, gy0]
    unfold f241_45
    rw [v2]
    rfl
end ZCL
