/-! one that has what it waited for goes on -/
section ZCD
variable {G W : Nat → Nat → Nat} {F : Nat → Nat → Nat → Nat} {B C x y n i j o : Nat} {s t : zσ}
theorem zsq_F (h : RUN G F W B C x y s t) (hj : j < 8) (w : wT j s) : zsq j s = F j 1 (F j 3 0 - 1) := by
  obtain ⟨-, -, hF⟩ := h.2.2.2.2.1 j hj (by omega)
  have n2 := h.2.1.1.2.2.1.2.2.1
  have h0 : ¬ s.1 (1036 + 3 * j) 3 = 0 := by
    rcases w with q | q <;> rw [q] <;> decide
  have hD : 0 < F j 3 0 := Nat.pos_of_ne_zero (fun q => h0 (hF.2.2.1.mpr q))
  obtain ⟨w1, w2, w3, w4, -⟩ := r_top (n := 0) hF hj hD
  unfold zsq
  rw [w3, nxN (by omega), w4, nxN (by omega)]
theorem up_ok {b : Nat} (h : RUN G F W B C x y s t) (ho : o < 8) (hC : C < 900000000) (hab : (s.1 (1036 + 3 * o) 3 = 3 ∧ b = 1) ∨ (s.1 (1036 + 3 * o) 3 = 4 ∧ b = 2)) : RUN G F (Wr W o) B (C + 1) x y (sI (sI (sI s 1007 15 (nI (W 4 0 + 1))) (1036 + 3 * o) 11 (nI (W 4 0 + 1))) (1036 + 3 * o) 3 (nI b)) (sI (sI (sI t 1225 o (nI b)) 1227 o (nI (W 4 1))) 1132 30 (nI (W 4 1 + 1))) ∧ oC o s (sI (sI (sI s 1007 15 (nI (W 4 0 + 1))) (1036 + 3 * o) 11 (nI (W 4 0 + 1))) (1036 + 3 * o) 3 (nI b)) ∧ oM o t (sI (sI (sI t 1225 o (nI b)) 1227 o (nI (W 4 1))) 1132 30 (nI (W 4 1 + 1))) := by
  have oc : oC o s (sI (sI (sI s 1007 15 (nI (W 4 0 + 1))) (1036 + 3 * o) 11 (nI (W 4 0 + 1))) (1036 + 3 * o) 3 (nI b)) := ⟨rfl, fun a _ _ _ _ _ _ _ _ => by simp (disch := omega) only [hIo]⟩
  have om : oM o t (sI (sI (sI t 1225 o (nI b)) 1227 o (nI (W 4 1))) 1132 30 (nI (W 4 1 + 1))) := ⟨rfl, fun _ _ => rfl, fun a _ _ _ => by simp (disch := omega) only [hIo], fun a j _ _ _ => by simp (disch := omega) only [hIx], fun a j d _ _ _ _ => by simp (disch := omega) only [hIx], fun j k _ _ => by simp (disch := omega) only [hIx], fun a _ _ => by simp (disch := omega) only [hIo], by simp (disch := omega) only [hIo, hIk]⟩
  have hxx := h.1.1
  obtain ⟨p1, p2, p3, p4, p5, p6⟩ := gP_of h
  obtain ⟨w1, w2, w3, w4, w5⟩ := p5
  have hx2 : RUNx o G F (Wr W o) B (C + 1) x y (sI (sI (sI s 1007 15 (nI (W 4 0 + 1))) (1036 + 3 * o) 11 (nI (W 4 0 + 1))) (1036 + 3 * o) 3 (nI b)) (sI (sI (sI t 1225 o (nI b)) 1227 o (nI (W 4 1))) 1132 30 (nI (W 4 1 + 1))) := by
    refine RUNx_gP ho (Or.inr rfl) h oc om (fun j _ hj => sG1_Wr hj) ⟨?_, ?_, ?_, ?_, ?_, ?_⟩
    · unfold rA at p1 ⊢; simp (disch := omega) only [hIo, hIk]; exact p1
    · unfold rB at p2 ⊢; simp (disch := omega) only [hIo, hIk]; exact p2
    · unfold rV at p3 ⊢; simp (disch := omega) only [hIo]; exact p3
    · unfold rH at p4 ⊢; simp (disch := omega) only [hIo, hIk]; exact p4
    · refine ⟨?_, ?_, by rw [Wr_40]; omega, by rw [Wr_41]; omega, by omega⟩
      · rw [Wr_40]; simp (disch := omega) only [hIo, hIe]
      · rw [Wr_41]; simp (disch := omega) only [hIe]
    · obtain ⟨e1, e2, e3⟩ := p6
      refine ⟨?_, ?_, W 4 1 + 1, by omega, ?_⟩
      · simp (disch := omega) only [hIo, hIk]; exact e1
      · simp (disch := omega) only [hIo, hIk]; exact e2
      · simp (disch := omega) only [hIe]
  obtain ⟨t1, tt1, t3⟩ := h.2.2.2.2.1 o ho (by omega)
  have hb12 : b = 1 ∨ b = 2 := by rcases hab with ⟨-, q⟩ | ⟨-, q⟩ <;> omega
  have h31 : (sI (sI (sI s 1007 15 (nI (W 4 0 + 1))) (1036 + 3 * o) 11 (nI (W 4 0 + 1))) (1036 + 3 * o) 3 (nI b)).1 (1036 + 3 * o) 3 = nI b := hIe
  have hw : s.1 (1036 + 3 * o) 3 = 3 ∨ s.1 (1036 + 3 * o) 3 = 4 := by rcases hab with ⟨q, -⟩ | ⟨q, -⟩ <;> simp only [q] <;> decide
  have nb : ¬ (nI b = 3 ∨ nI b = 4) := by rcases hb12 with q | q <;> rw [q] <;> decide
  have nb0 : ¬ nI b = 0 := by rcases hb12 with q | q <;> rw [q] <;> decide
  have hF2 : rF1 G F x o (sI (sI (sI s 1007 15 (nI (W 4 0 + 1))) (1036 + 3 * o) 11 (nI (W 4 0 + 1))) (1036 + 3 * o) 3 (nI b)) (sI (sI (sI t 1225 o (nI b)) 1227 o (nI (W 4 1))) 1132 30 (nI (W 4 1 + 1))) := by
    refine rF1_st (v := 0) t3 ?_ ?_ (by rw [h31]; exact fun q => absurd q nb) (by simp (disch := omega) only [hIo, hIk]) (by simp (disch := omega) only [hIo]) (by simp (disch := omega) only [hIo]) (by simp (disch := omega) only [hIo]) (fun a ha => by simp (disch := omega) only [hIx]) (fun a q1 q2 => by simp (disch := omega) only [hIo])
    · rcases hw with q | q <;> rw [q] <;> decide
    · rw [h31]; exact nb0
  refine ⟨RUN_of hx2 ⟨?_, ?_, hF2⟩ ?_, oc, om⟩
  · unfold rTa at t1 ⊢
    simp (disch := omega) only [hIo, hIk]
    exact t1
  · obtain ⟨a', k, b1, b2, b3, b4, b5, b6, b7, b8, b9, b10, b11⟩ := tt1
    have a31 : a' < 2 ^ 31 := Nat.lt_of_le_of_lt b1 (by decide)
    have ea : a' = 3 ∨ a' = 4 := by
      rw [b2] at hw
      rcases hw with q | q
      · exact Or.inl ((neq3 a31).mp q)
      · exact Or.inr ((neq4 a31).mp q)
    have a0 : a' ≠ 0 := by clear b8 b9 b10 b11; omega
    have n7 : (1036 + 3 * o : Nat) ≠ 1007 := by clear b8 b9 b10 b11; omega
    have b04 : b ≤ 4 ∧ b ≠ 0 ∧ ¬ (b = 3 ∨ b = 4) := by clear b8 b9 b10 b11; omega
    refine ⟨b, k, b04.1, h31, ?_, fun q => absurd (b4 q) a0, b5, ?_, ?_, fun q => absurd q b04.2.1, fun _ => ?_, fun _ => ⟨?_, ?_, ?_, ?_⟩, fun q => absurd q b04.2.2⟩
    · rw [hIo (by decide), hIo (by decide), hIe]
    · rw [hIk (by decide), hIk (by decide), hIo n7]; exact b6
    · rw [hIo (by decide), hIo (by decide), hIo (by decide)]; exact b7
    · rw [hIk (by decide), hIk (by decide), hIo n7, hIo (by decide), hIo (by decide), hIo (by decide)]
      exact b9 a0
    · rw [Wr_0, hIk (by decide), hIe]
    · rw [Wr_2, hIo (by decide), hIe]
    · rw [Wr_0, Wr_40]; exact Nat.le_refl _
    · rw [Wr_2, Wr_41]; exact Nat.lt_succ_self _
  · rcases hb12 with q | q
    · subst q
      refine rU_r (t := sI (sI (sI t 1225 o (nI 1)) 1227 o (nI (W 4 1))) 1132 30 (nI (W 4 1 + 1))) (G := G) ho h31 (fun j hj hji => (hx2.2.2.2.2.1 j hj hji).2.1) (fun j hj hji h1 => ?_)
      rw [(oC_j ho hj hji oc).1] at h1
      obtain ⟨-, ⟨a, kk, a4, t1, t2, -, -, -, -, -, -, t10, -⟩, -⟩ := h.2.2.2.2.1 j hj (by omega)
      rw [t1] at h1
      have := t10 ((neq1 (by omega)).mp h1)
      exact ⟨this.2.2.1, this.2.2.2⟩
    · intro j hj hji
      have n1 : ¬ nI b = 1 := by rw [q]; decide
      constructor
      · refine fun _ => ⟨fun h1 => ?_, fun h1 => ?_⟩
        · rw [h31] at h1; exact absurd h1 n1
        · rw [h31] at h1; exact absurd h1 nb
      · refine fun _ => ⟨fun _ h1 => ?_, fun _ h1 => ?_⟩
        · rw [h31] at h1; exact absurd h1 n1
        · rw [h31] at h1; exact absurd h1 nb
/-- the class's grant, then what comes behind -/
def gtC (n j : Nat) (s : zσ) (r2 : Int32 → zσ → Option zσ) (x1 : Int32) : Option zσ := yb0 (f114 n (1036 + 3 * j) (nI (zsq j s)) s) fun u2 => zlet (sI u2 1007 15 ((u2.1 1007 15) + (1 : Int32))) fun u3 => zlet (sI u3 (1036 + 3 * j) 11 ((u2.1 1007 15) + (1 : Int32))) fun u4 => if (u4.1 (1036 + 3 * j) 3) = (4 : Int32) then f132_128 n r2 x1 (1036 + 3 * j) (nI (zsq j s)) (2 : Int32) (1036 + 3 * j) u4 else f132_128 n r2 x1 (1036 + 3 * j) (nI (zsq j s)) (1 : Int32) (1036 + 3 * j) u4
theorem grant_ok (hn : 1000 ≤ n) (hC : C < 899999990) (h : RUN G F W B C x y s t) (hj : j < 8) (w : wT j s) (hc : canP n x j s) : ∃ s2 t2 F2 W2 C2, (∀ r2 x1, gtC n j s r2 x1 = r2 (x1 + 1) s2) ∧ f235 n (nI j) t = some t2 ∧ RUN G F2 W2 B C2 x y s2 t2 ∧ C2 ≤ C + 2 ∧ ¬ wT j s2 ∧ (∀ k, k < 8 → k ≠ j → s2.1 (1036 + 3 * k) = s.1 (1036 + 3 * k) ∧ s2.1 (1036 + 3 * k + 1) = s.1 (1036 + 3 * k + 1)) ∧ t2.1 1132 69 = t.1 1132 69 := by
  obtain ⟨s4, t4, e1, e2, h4, q1, q2⟩ := have_ok hn h hj w hc
  have c3 : ∀ k, k < 8 → s4.1 (1036 + 3 * k) = s.1 (1036 + 3 * k) ∧ s4.1 (1036 + 3 * k + 1) = s.1 (1036 + 3 * k + 1) := fun k _ => ⟨q1.2 _ (by omega), q1.2 _ (by omega)⟩
  have w4 : wT j s4 := by unfold wT at w ⊢; rw [(c3 j hj).1]; exact w
  have ez : zsq j s4 = zsq j s := by unfold zsq; rw [(c3 j hj).1, (c3 j hj).2]
  obtain ⟨-, -, -, -, p5, -⟩ := gP_of h4
  obtain ⟨u1, u2, -⟩ := p5
  have z8 : zin? (nI j) 8 = true := (zinN (by omega)).mpr hj
  have nj := nxN (show j < 2 ^ 31 by omega)
  have n7 : (1036 + 3 * j : Nat) ≠ 1007 := by omega
  obtain ⟨b, hab⟩ : ∃ b, (s4.1 (1036 + 3 * j) 3 = 3 ∧ b = 1) ∨ (s4.1 (1036 + 3 * j) 3 = 4 ∧ b = 2) := by
    rcases w4 with q | q
    · exact ⟨1, Or.inl ⟨q, rfl⟩⟩
    · exact ⟨2, Or.inr ⟨q, rfl⟩⟩
  obtain ⟨h5, oc, om⟩ := up_ok h4 hj (by omega) hab
  have hb12 : b = 1 ∨ b = 2 := by rcases hab with ⟨-, q⟩ | ⟨-, q⟩ <;> omega
  have h31 : (sI (sI (sI s4 1007 15 (nI (W 4 0 + 1))) (1036 + 3 * j) 11 (nI (W 4 0 + 1))) (1036 + 3 * j) 3 (nI b)).1 (1036 + 3 * j) 3 = nI b := hIe
  obtain ⟨g1, g2, g3, g4, g5⟩ := CL_of h5 hj (by rw [h31]; rcases hb12 with q | q <;> rw [q] <;> decide)
  rw [← zsq_F h4 hj w4, ez] at g2 g3 g4
  obtain ⟨s6, t6, F2, W2, C2, a1, a2, a3, a4, a5, a6, a7⟩ := onward_ok (n := n) hn (by omega) g1 g2 g3 g4
  refine ⟨s6, t6, F2, W2, C2, fun r2 x1 => ?_, ?_, a3, by omega, a7, fun k hk hkj => ?_, ?_⟩
  · unfold gtC
    rw [e1, gy0, zlet, zlet, u1, nI_1]
    have ea : ∀ c : Nat, b = c → f132_128 n r2 x1 (1036 + 3 * j) (nI (zsq j s)) (nI c) (1036 + 3 * j) (sI (sI s4 1007 15 (nI (W 4 0 + 1))) (1036 + 3 * j) 11 (nI (W 4 0 + 1))) = r2 (x1 + 1) s6 := by
      intro c hcb
      unfold f132_128
      rw [zlet, ← hcb, a1, gy0]
    rw [hIk (by decide), hIo n7]
    rcases hab with ⟨q, qb⟩ | ⟨q, qb⟩
    · rw [if_neg (by rw [q]; decide)]
      exact ea 1 qb
    · rw [if_pos q]
      exact ea 2 qb
  · have em : t4.1 1225 j = s4.1 (1036 + 3 * j) 3 := by
      obtain ⟨-, ⟨a, k, -, b2, b3, -⟩, -⟩ := h4.2.2.2.2.1 j hj (by omega)
      rw [b2, b3]
    have ea : ∀ c : Nat, b = c → f235_198 n (nI j) (nI c) (nI j) t4 = some t6 := by
      intro c hcb
      unfold f235_198
      rw [if_pos z8, zlet, if_pos z8, zlet, zlet, nj]
      rw [hIo (by decide), u2]
      rw [hIo (by decide), hIo (by decide), u2, nI_1, ← hcb, a2]
      rfl
    rw [e2]
    unfold f235_178
    rw [if_pos z8, nj, em]
    rcases hab with ⟨q, qb⟩ | ⟨q, qb⟩
    · rw [if_neg (by rw [q]; decide)]
      exact ea 1 qb
    · rw [if_pos q]
      exact ea 2 qb
  · have o2 := oC_tr oc a5
    have := oC_j hj hk hkj o2
    exact ⟨this.1.trans (c3 k hk).1, this.2.1.trans (c3 k hk).2⟩
  · rw [(oM_tr om a6).2.2.2.2.2.2.2]
    exact q2.2.2
end ZCD
