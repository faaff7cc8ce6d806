/-! start, go, prior of a task -/
section ZSU
variable {G W : Nat → Nat → Nat} {F : Nat → Nat → Nat → Nat} {B C x y n o : Nat} {s t : zσ}
theorem kept_ok {k : Nat} (h : RUN G F W B C x y s t) (ho : o < 8) (h0 : ¬ s.1 (1036 + 3 * o) 3 = 0) (hk : s.1 (1036 + 3 * o) 5 = nI k) (hk3 : k < 3) : RUN G F W B C x y (sI s (1036 + 3 * o) 5 (nI (k + 1))) (sI t 1229 o (nI (k + 1))) ∧ oC o s (sI s (1036 + 3 * o) 5 (nI (k + 1))) ∧ oM o t (sI t 1229 o (nI (k + 1))) := by
  have oc : oC o s (sI s (1036 + 3 * o) 5 (nI (k + 1))) := ⟨rfl, fun a _ _ _ _ _ _ _ _ => by simp (disch := omega) only [hIo]⟩
  have om : oM o t (sI t 1229 o (nI (k + 1))) := ⟨rfl, fun _ _ => rfl, fun a _ _ _ => by simp (disch := omega) only [hIo], fun a j _ _ _ => by simp (disch := omega) only [hIx], fun a j d _ _ _ _ => by simp (disch := omega) only [hIx], fun j k _ _ => by simp (disch := omega) only [hIx], fun a _ _ => by simp (disch := omega) only [hIo], by simp (disch := omega) only [hIo, hIk]⟩
  have hxx := h.1.1
  obtain ⟨p1, p2, p3, p4, p5, p6⟩ := gP_of h
  have hx2 : RUNx o G F W B C x y (sI s (1036 + 3 * o) 5 (nI (k + 1))) (sI t 1229 o (nI (k + 1))) := by
    refine RUNx_gP ho (Or.inr rfl) h oc om (fun j _ _ => sG1_rf) ⟨?_, ?_, ?_, ?_, ?_, ?_⟩
    · unfold rA at p1 ⊢; simp (disch := omega) only [hIo]; exact p1
    · unfold rB at p2 ⊢; simp (disch := omega) only [hIo]; exact p2
    · unfold rV at p3 ⊢; simp (disch := omega) only [hIo]; exact p3
    · unfold rH at p4 ⊢; simp (disch := omega) only [hIo]; exact p4
    · unfold rC at p5 ⊢; simp (disch := omega) only [hIo]; exact p5
    · unfold rE at p6 ⊢; simp (disch := omega) only [hIo]; exact p6
  obtain ⟨t1, tt1, t3⟩ := h.2.2.2.2.1 o ho (by omega)
  have hF2 : rF1 G F x o (sI s (1036 + 3 * o) 5 (nI (k + 1))) (sI t 1229 o (nI (k + 1))) := by
    unfold rF1 rK rQ rM at t3 ⊢
    simp (disch := omega) only [hIo, hIk]
    exact t3
  refine ⟨RUN_of hx2 ⟨?_, ?_, hF2⟩ (fun j hj hji => ?_), oc, om⟩
  · unfold rTa at t1 ⊢
    simp (disch := omega) only [hIo, hIk]
    exact t1
  · obtain ⟨a, k', b1, b2, b3, b4, b5, b6, b7, b8, b9, b10, b11⟩ := tt1
    have n5 : (1036 + 3 * o : Nat) = 1036 + 3 * o := rfl
    refine ⟨a, k + 1, b1, ?_, ?_, b4, hk3, hIe, hIe, fun q => absurd (by rw [b2, q]; rfl) h0, ?_, ?_, ?_⟩
    · rw [hIk (by decide)]; exact b2
    · rw [hIo (by decide)]; exact b3
    · rw [hIk (by decide), hIo (by decide)]; exact b9
    · rw [hIk (by decide), hIo (by decide)]; exact b10
    · rw [hIk (by decide), hIo (by decide)]; exact b11
  · have u1 := h.2.2.2.2.2 o j ho hj (by omega) (by omega)
    have u2 := h.2.2.2.2.2 j o hj ho (by omega) (by omega)
    unfold rU2 at u1 u2 ⊢
    simp (disch := omega) only [hIo, hIk]
    exact ⟨u1, u2⟩
theorem lost_ok (h : RUN G F W B C x y s t) (ho : o < 8) : RUN G F W B C x y (sI s (1036 + 3 * o) 6 (s.1 (1036 + 3 * o) 6 + 1)) (sI t 1230 o (t.1 1230 o + 1)) ∧ oC o s (sI s (1036 + 3 * o) 6 (s.1 (1036 + 3 * o) 6 + 1)) ∧ oM o t (sI t 1230 o (t.1 1230 o + 1)) := by
  have oc : oC o s (sI s (1036 + 3 * o) 6 (s.1 (1036 + 3 * o) 6 + 1)) := ⟨rfl, fun a _ _ _ _ _ _ _ _ => by simp (disch := omega) only [hIo]⟩
  have om : oM o t (sI t 1230 o (t.1 1230 o + 1)) := ⟨rfl, fun _ _ => rfl, fun a _ _ _ => by simp (disch := omega) only [hIo], fun a j _ _ _ => by simp (disch := omega) only [hIx], fun a j d _ _ _ _ => by simp (disch := omega) only [hIx], fun j k _ _ => by simp (disch := omega) only [hIx], fun a _ _ => by simp (disch := omega) only [hIo], by simp (disch := omega) only [hIo, hIk]⟩
  have hxx := h.1.1
  obtain ⟨p1, p2, p3, p4, p5, p6⟩ := gP_of h
  have hx2 : RUNx o G F W B C x y (sI s (1036 + 3 * o) 6 (s.1 (1036 + 3 * o) 6 + 1)) (sI t 1230 o (t.1 1230 o + 1)) := by
    refine RUNx_gP ho (Or.inr rfl) h oc om (fun j _ _ => sG1_rf) ⟨?_, ?_, ?_, ?_, ?_, ?_⟩
    · unfold rA at p1 ⊢; simp (disch := omega) only [hIo]; exact p1
    · unfold rB at p2 ⊢; simp (disch := omega) only [hIo]; exact p2
    · unfold rV at p3 ⊢; simp (disch := omega) only [hIo]; exact p3
    · unfold rH at p4 ⊢; simp (disch := omega) only [hIo]; exact p4
    · unfold rC at p5 ⊢; simp (disch := omega) only [hIo]; exact p5
    · unfold rE at p6 ⊢; simp (disch := omega) only [hIo]; exact p6
  obtain ⟨t1, tt1, t3⟩ := h.2.2.2.2.1 o ho (by omega)
  have hF2 : rF1 G F x o (sI s (1036 + 3 * o) 6 (s.1 (1036 + 3 * o) 6 + 1)) (sI t 1230 o (t.1 1230 o + 1)) := by
    unfold rF1 rK rQ rM at t3 ⊢
    simp (disch := omega) only [hIo, hIk]
    exact t3
  refine ⟨RUN_of hx2 ⟨?_, ?_, hF2⟩ (fun j hj hji => ?_), oc, om⟩
  · unfold rTa at t1 ⊢
    simp (disch := omega) only [hIo, hIk, hIe]
    obtain ⟨q1, q2, q3⟩ := t1
    exact ⟨q1, by rw [q2], q3⟩
  · unfold rT1 at tt1 ⊢
    simp (disch := omega) only [hIo, hIk]
    exact tt1
  · have u1 := h.2.2.2.2.2 o j ho hj (by omega) (by omega)
    have u2 := h.2.2.2.2.2 j o hj ho (by omega) (by omega)
    unfold rU2 at u1 u2 ⊢
    simp (disch := omega) only [hIo, hIk]
    exact ⟨u1, u2⟩
theorem prior_ok {p : Nat} (h : RUN G F W B C x y s t) (ho : o < 8) (h0 : ¬ s.1 (1036 + 3 * o) 3 = 0) (hp : 1 ≤ p ∧ p ≤ 9) : RUN G F W B C x y (sI s (1036 + 3 * o) 4 (nI p)) (sI t 1226 o (nI p)) ∧ oC o s (sI s (1036 + 3 * o) 4 (nI p)) ∧ oM o t (sI t 1226 o (nI p)) := by
  have oc : oC o s (sI s (1036 + 3 * o) 4 (nI p)) := ⟨rfl, fun a _ _ _ _ _ _ _ _ => by simp (disch := omega) only [hIo]⟩
  have om : oM o t (sI t 1226 o (nI p)) := ⟨rfl, fun _ _ => rfl, fun a _ _ _ => by simp (disch := omega) only [hIo], fun a j _ _ _ => by simp (disch := omega) only [hIx], fun a j d _ _ _ _ => by simp (disch := omega) only [hIx], fun j k _ _ => by simp (disch := omega) only [hIx], fun a _ _ => by simp (disch := omega) only [hIo], by simp (disch := omega) only [hIo, hIk]⟩
  have hxx := h.1.1
  obtain ⟨p1, p2, p3, p4, p5, p6⟩ := gP_of h
  have hx2 : RUNx o G F W B C x y (sI s (1036 + 3 * o) 4 (nI p)) (sI t 1226 o (nI p)) := by
    refine RUNx_gP ho (Or.inr rfl) h oc om (fun j _ _ => sG1_rf) ⟨?_, ?_, ?_, ?_, ?_, ?_⟩
    · unfold rA at p1 ⊢; simp (disch := omega) only [hIo]; exact p1
    · unfold rB at p2 ⊢; simp (disch := omega) only [hIo]; exact p2
    · unfold rV at p3 ⊢; simp (disch := omega) only [hIo]; exact p3
    · unfold rH at p4 ⊢; simp (disch := omega) only [hIo]; exact p4
    · unfold rC at p5 ⊢; simp (disch := omega) only [hIo]; exact p5
    · unfold rE at p6 ⊢; simp (disch := omega) only [hIo]; exact p6
  obtain ⟨t1, tt1, t3⟩ := h.2.2.2.2.1 o ho (by omega)
  have hF2 : rF1 G F x o (sI s (1036 + 3 * o) 4 (nI p)) (sI t 1226 o (nI p)) := by
    unfold rF1 rK rQ rM at t3 ⊢
    simp (disch := omega) only [hIo, hIk]
    exact t3
  refine ⟨RUN_of hx2 ⟨?_, ?_, hF2⟩ (fun j hj hji => ?_), oc, om⟩
  · unfold rTa at t1 ⊢
    simp (disch := omega) only [hIo, hIk]
    exact t1
  · obtain ⟨a, k', b1, b2, b3, b4, b5, b6, b7, b8, b9, b10, b11⟩ := tt1
    refine ⟨a, k', b1, ?_, ?_, b4, b5, ?_, ?_, fun q => absurd (by rw [b2, q]; rfl) h0, fun _ => ⟨p, hp.1, hp.2, hIe, hIe⟩, ?_, ?_⟩
    · rw [hIk (by decide)]; exact b2
    · rw [hIo (by decide)]; exact b3
    · rw [hIk (by decide)]; exact b6
    · rw [hIo (by decide)]; exact b7
    · rw [hIk (by decide), hIo (by decide)]; exact b10
    · rw [hIk (by decide), hIo (by decide)]; exact b11
  · have u1 := h.2.2.2.2.2 o j ho hj (by omega) (by omega)
    have u2 := h.2.2.2.2.2 j o hj ho (by omega) (by omega)
    unfold rU2 at u1 u2 ⊢
    simp (disch := omega) only [hIo, hIk]
    exact ⟨u1, u2⟩
/-- start -/
theorem start_ok (hn : 10 ≤ n) (h : RUN G F W B C x y s t) (ho8 : o < G 6 8) (hC : C < 900000000) : ∃ s2 t2 F2 W2 C2, f87 n (nI (2 * o)) s = some (0, s2) ∧ f210 n (nI o) t = some t2 ∧ RUN G F2 W2 B C2 x y s2 t2 ∧ C2 ≤ C + 1 ∧ oC o s s2 ∧ oM o t t2 ∧ (¬ s.1 (1036 + 3 * o) 3 = 0 → s2.1 (1036 + 3 * o) 3 = s.1 (1036 + 3 * o) 3 ∧ t2.1 1235 = t.1 1235 ∧ t2.1 1237 = t.1 1237 ∧ (∀ k, k = 4 ∨ k = 10 ∨ k = 12 → s2.1 (1036 + 3 * o) k = s.1 (1036 + 3 * o) k) ∧ s2.1 (1036 + 3 * o + 1) = s.1 (1036 + 3 * o + 1)) ∧ (s.1 (1036 + 3 * o) 3 = 0 → ¬ (s2.1 (1036 + 3 * o) 3 = 3 ∨ s2.1 (1036 + 3 * o) 3 = 4) ∧ (s2.1 (1036 + 3 * o) 3 = 0 ∨ s2.1 (1036 + 3 * o) 4 = s.1 (x + 14) o)) ∧ (∀ k, s2.1 1023 k = s.1 1023 k ∨ s2.1 1023 k = -1) ∧ s2.1 1007 14 = s.1 1007 14 := by
  have h8 := (h.2.1.1.1 8 (by decide)).2.2
  have ho : o < 8 := by omega
  have z8 : zin? (nI o) 8 = true := (zinN (by omega)).mpr ho
  obtain ⟨q1, q2, -⟩ := half16 ⟨2 * o, by omega⟩
  have e1 : nI (2 * o) / 2 = nI o := by rw [q1]; congr 1; show 2 * o / 2 = o; omega
  have e2 : nI (2 * o) - nI o * 2 = 0 := by
    have := q2 (show 2 * o % 2 = 0 by omega)
    rw [e1] at this
    exact this
  have rt := h.1.2.2.2.2.2.2 o ho
  have ck := gck8 ho
  have eC : f87 n (nI (2 * o)) s = (if s.1 (1036 + 3 * o) 3 = 0 then yb0 (f80 n (1036 + 3 * o) s) fun u8 => some ((0 : Int32), u8) else if s.1 (1036 + 3 * o) 5 < 3 then some ((0 : Int32), sI s (1036 + 3 * o) 5 (s.1 (1036 + 3 * o) 5 + 1)) else some ((0 : Int32), sI s (1036 + 3 * o) 6 (s.1 (1036 + 3 * o) 6 + 1))) := by
    unfold f87
    rw [e1, if_pos z8, nxN (show o < 2 ^ 31 by omega), rt, grd ck, e2, if_pos rfl]
    rfl
  have eM : f210 n (nI o) t = (if t.1 1225 o = 0 then yb0 (f211 n (f219 n 4) (nI o) t) fun u3 => some u3 else if t.1 1229 o < 3 then some (sI t 1229 o (t.1 1229 o + 1)) else some (sI t 1230 o (t.1 1230 o + 1))) := by
    unfold f210
    rw [if_pos z8, nxN (show o < 2 ^ 31 by omega), if_pos z8, if_pos z8, if_pos z8, if_pos z8, if_pos z8]
    rfl
  obtain ⟨ta, tt1, tf⟩ := h.2.2.2.2.1 o ho (by omega)
  obtain ⟨a, k, b1, b2, b3, b4, b5, b6, b7, b8, -⟩ := id tt1
  rw [eC, eM, b3, b2, b6, b7]
  by_cases a0 : a = 0
  · have e0 : nI a = 0 := by rw [a0]; rfl
    rw [if_pos e0, if_pos e0]
    have s0 : s.1 (1036 + 3 * o) 3 = 0 := by rw [b2, e0]
    by_cases g : G 9 (G 14 o) = 0
    · obtain ⟨s2, t2, c1, c2, c3, c4, c5, c6, c7⟩ := begin_empty hn h ho8 hC s0 g
      exact ⟨s2, t2, F, _, C + 1, by rw [c1]; rfl, by rw [c2]; rfl, c3, Nat.le_refl _, c4, c5, fun q => absurd s0 (by rw [b2]; exact q), fun _ => ⟨by rw [c6]; decide, Or.inl c6⟩, c7⟩
    · obtain ⟨a1, a2, a3, a4, -⟩ := id tf
      have hF0 := a3.mp s0
      obtain ⟨d10, d34⟩ := a4 hF0
      obtain ⟨k0, -⟩ := b8 a0
      obtain ⟨s2, t2, r, c1, c2, c3, c4, c5, c6, c7, c8, c9⟩ := begin_ok (n := n) (g := f219 n 4) (k := k) (by omega) (Or.inr rfl) h ho8 hC ta b5 b6 b7 (by rw [a1, hF0]; rfl) d34 g
      exact ⟨s2, t2, _, _, C + 1, by rw [c1]; rfl, by rw [c2]; rfl, c3, Nat.le_refl _, c4, c5, fun q => absurd s0 (by rw [b2]; exact q), fun _ => ⟨by rw [c6]; decide, Or.inr c7⟩, fun k => Or.inl (by rw [c8]), c9⟩
  · have a31 : a < 2 ^ 31 := Nat.lt_of_le_of_lt b1 (by decide)
    have e0 : ¬ nI a = 0 := fun q => a0 ((neq0 a31).mp q)
    have s0 : ¬ s.1 (1036 + 3 * o) 3 = 0 := by rw [b2]; exact e0
    rw [if_neg e0, if_neg e0]
    have k31 : k < 2 ^ 31 := Nat.lt_of_le_of_lt b5 (by decide)
    by_cases k3 : k < 3
    · have l3 : nI k < 3 := (nltN (b := 3) k31 (by decide)).mpr k3
      rw [if_pos l3, if_pos l3, nI_1]
      obtain ⟨c1, c2, c3⟩ := kept_ok h ho s0 b6 k3
      exact ⟨_, _, F, W, C, rfl, rfl, c1, Nat.le_succ _, c2, c3, fun _ => ⟨by rw [hIk (by decide)]; exact b2, hIo (by decide), hIo (by decide), fun k hk => hIk (by omega), hIo (by omega)⟩, fun q => absurd q e0, fun k => Or.inl (by rw [hIo (by omega)]), by rw [hIo (by omega)]⟩
    · have l3 : ¬ nI k < 3 := fun q => k3 ((nltN (b := 3) k31 (by decide)).mp q)
      rw [if_neg l3, if_neg l3]
      obtain ⟨c1, c2, c3⟩ := lost_ok (o := o) h ho
      exact ⟨_, _, F, W, C, rfl, rfl, c1, Nat.le_succ _, c2, c3, fun _ => ⟨by rw [hIk (by decide)]; exact b2, hIo (by decide), hIo (by decide), fun k hk => hIk (by omega), hIo (by omega)⟩, fun q => absurd q e0, fun k => Or.inl (by rw [hIo (by omega)]), by rw [hIo (by omega)]⟩
/-- go: it is done by both, or barred for both -/
theorem go_ok (h : RUN G F W B C x y s t) (ho8 : o < G 6 8) (hC : C < 900000000) : (f87 n (nI (2 * o + 1)) s = some (7, s) ∧ f225 n (nI o) t = some (0, t)) ∨ (∃ s2 t2 W2 C2, f87 n (nI (2 * o + 1)) s = some (0, s2) ∧ f225 n (nI o) t = some (1, t2) ∧ RUN G F W2 B C2 x y s2 t2 ∧ C2 ≤ C + 1 ∧ oC o s s2 ∧ oM o t t2 ∧ ((s2.1 (1036 + 3 * o) 3 = 1 ∧ s.1 (1036 + 3 * o) 3 = 2) ∨ (s2.1 (1036 + 3 * o) 3 = 3 ∧ s.1 (1036 + 3 * o) 3 = 4)) ∧ t2.1 1235 = t.1 1235 ∧ t2.1 1237 = t.1 1237 ∧ (∀ k, k = 4 ∨ k = 10 ∨ k = 12 → s2.1 (1036 + 3 * o) k = s.1 (1036 + 3 * o) k) ∧ s2.1 (1036 + 3 * o + 1) = s.1 (1036 + 3 * o + 1) ∧ s2.1 1023 = s.1 1023 ∧ s2.1 1007 14 = s.1 1007 14) := by
  have h8 := (h.2.1.1.1 8 (by decide)).2.2
  have ho : o < 8 := by omega
  have z8 : zin? (nI o) 8 = true := (zinN (by omega)).mpr ho
  obtain ⟨q1, -, q2⟩ := half16 ⟨2 * o + 1, by omega⟩
  have e1 : nI (2 * o + 1) / 2 = nI o := by rw [q1]; congr 1; show (2 * o + 1) / 2 = o; omega
  have e2 : ¬ nI (2 * o + 1) - nI o * 2 = 0 := by
    have := q2 (show (2 * o + 1) % 2 = 1 by omega)
    rw [e1] at this
    exact this
  have rt := h.1.2.2.2.2.2.2 o ho
  have ck := gck8 ho
  obtain ⟨ta, tt1, tf⟩ := h.2.2.2.2.1 o ho (by omega)
  obtain ⟨a, k, b1, b2, b3, -⟩ := id tt1
  have a31 : a < 2 ^ 31 := Nat.lt_of_le_of_lt b1 (by decide)
  obtain ⟨-, -, -, -, p5, -⟩ := gP_of h
  obtain ⟨w1, w2, -⟩ := p5
  have n7 : (1007 : Nat) ≠ 1036 + 3 * o := by omega
  have eC : f87 n (nI (2 * o + 1)) s = (if nI a = 2 then some ((0 : Int32), sI (sI (sI s (1036 + 3 * o) 3 1) 1007 15 (nI (W 4 0 + 1))) (1036 + 3 * o) 11 (nI (W 4 0 + 1))) else if nI a = 4 then some ((0 : Int32), sI s (1036 + 3 * o) 3 3) else some ((7 : Int32), s)) := by
    unfold f87
    rw [e1, if_pos z8, nxN (show o < 2 ^ 31 by omega), rt, grd ck, if_neg e2, b2]
    simp only [zlet, hIo n7, w1, nI_1]
  have eM : f225 n (nI o) t = (if nI a = 2 then some ((1 : Int32), sI (sI (sI t 1225 o 1) 1227 o (nI (W 4 1))) 1132 30 (nI (W 4 1 + 1))) else if nI a = 4 then some ((1 : Int32), sI t 1225 o 3) else some ((0 : Int32), t)) := by
    unfold f225
    rw [if_pos z8, nxN (show o < 2 ^ 31 by omega), b3]
    simp only [z8, if_true, zlet, hIo (show (1132 : Nat) ≠ 1225 by decide), hIo (show (1132 : Nat) ≠ 1227 by decide), w2, nI_1]
  rw [eC, eM]
  by_cases a2 : a = 2
  · have q : nI a = 2 := by rw [a2]; rfl
    rw [if_pos q, if_pos q]
    obtain ⟨c1, c2, c3⟩ := go_ok2 h ho hC (by rw [b2]; exact q)
    exact Or.inr ⟨_, _, _, C + 1, rfl, rfl, c1, Nat.le_refl _, c2, c3, Or.inl ⟨by simp (disch := omega) only [hIe, hIk, hIo], by rw [b2]; exact q⟩, by simp (disch := omega) only [hIo], by simp (disch := omega) only [hIo], fun k hk => by simp (disch := omega) only [hIk, hIo], by simp (disch := omega) only [hIo], by simp (disch := omega) only [hIo], by simp (disch := omega) only [hIo, hIk]⟩
  · have q : ¬ nI a = 2 := fun e => a2 ((neq2 a31).mp e)
    rw [if_neg q, if_neg q]
    by_cases a4 : a = 4
    · have q4 : nI a = 4 := by rw [a4]; rfl
      rw [if_pos q4, if_pos q4]
      obtain ⟨c1, c2, c3⟩ := st_ok (a := a) (b := 3) h ho b2 (Or.inr (Or.inr ⟨a4, rfl⟩))
      exact Or.inr ⟨_, _, W, C, rfl, rfl, c1, Nat.le_succ _, c2, c3, Or.inr ⟨by rw [hIe], by rw [b2]; exact q4⟩, hIo (by decide), hIo (by decide), fun k hk => hIk (by omega), hIo (by omega), hIo (by omega), by rw [hIo (by omega)]⟩
    · have q4 : ¬ nI a = 4 := fun e => a4 ((neq4 a31).mp e)
      rw [if_neg q4, if_neg q4]
      exact Or.inl ⟨rfl, rfl⟩
end ZSU
