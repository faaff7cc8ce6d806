/-! a schedule acts -/
section ZCH
variable {G W W2 : Nat → Nat → Nat} {F F2 : Nat → Nat → Nat → Nat} {B C C2 x y n i j o k v : Nat} {s t s2 t2 : zσ}
/-- the priority by which a task is taken: of a dormant one the told one -/
def ef (x o : Nat) (s : zσ) : Int32 := if s.1 (1036 + 3 * o) 3 = 0 then s.1 (x + 14) o else s.1 (1036 + 3 * o) 4
/-- what a schedule's act leaves alone -/
def slF (x : Nat) (s t s2 t2 : zσ) : Prop := (∀ o, o < 8 → ef x o s2 = ef x o s) ∧ (∀ k, s2.1 1023 k = s.1 1023 k ∨ s2.1 1023 k = -1) ∧ (∀ a, (1011 ≤ a ∧ a ≤ 1029 ∧ a ≠ 1023) → s2.1 a = s.1 a) ∧ (∀ a, a = 1247 ∨ a = 1214 ∨ a = 1215 ∨ a = 1216 ∨ a = 1244 → t2.1 a = t.1 a) ∧ (t2.1 1132 69 = t.1 1132 69 ∧ s2.1 1007 14 = s.1 1007 14) ∧ (∀ i, i < 8 → s.1 (1036 + 3 * i) 3 = 1 → s2.1 (1036 + 3 * i) 3 = 1 ∧ t2.1 1235 i = t.1 1235 i ∧ ∀ d, d < 140 → t2.1 1237 (140 * i + d) = t.1 1237 (140 * i + d))
theorem slF_rf : slF x s t s t := ⟨fun _ _ => rfl, fun _ => Or.inl rfl, fun _ _ => rfl, fun _ _ => rfl, ⟨rfl, rfl⟩, fun _ _ h => ⟨h, rfl, fun _ _ => rfl⟩⟩
theorem slF_tr {s3 t3 : zσ} (h1 : slF x s t s2 t2) (h2 : slF x s2 t2 s3 t3) : slF x s t s3 t3 := by
  obtain ⟨a1, a2, a3, a4, a5, a6⟩ := h1
  obtain ⟨b1, b2, b3, b4, b5, b6⟩ := h2
  refine ⟨fun o ho => (b1 o ho).trans (a1 o ho), fun k => ?_, fun a ha => (b3 a ha).trans (a3 a ha), fun a ha => (b4 a ha).trans (a4 a ha), ⟨b5.1.trans a5.1, b5.2.trans a5.2⟩, fun i hi h => ?_⟩
  · rcases b2 k with q | q
    · rw [q]; exact a2 k
    · exact Or.inr q
  · obtain ⟨c1, c2, c3⟩ := a6 i hi h
    obtain ⟨d1, d2, d3⟩ := b6 i hi c1
    exact ⟨d1, d2.trans c2, fun d hd => (d3 d hd).trans (c3 d hd)⟩
/-- of a step at task o -/
theorem slF_of (hxx : x = 1060 ∨ x = 1096) (ho : o < 8) (o1 : oC o s s2) (o2 : oM o t t2) (h1 : ef x o s2 = ef x o s) (h2 : ∀ k, s2.1 1023 k = s.1 1023 k ∨ s2.1 1023 k = -1) (h14 : s2.1 1007 14 = s.1 1007 14) (h3 : s.1 (1036 + 3 * o) 3 = 1 → s2.1 (1036 + 3 * o) 3 = 1 ∧ t2.1 1235 = t.1 1235 ∧ t2.1 1237 = t.1 1237) : slF x s t s2 t2 := by
  refine ⟨fun i hi => ?_, h2, fun a ha => o1.2 a (by omega) (by omega) (by omega) (by omega) (by omega) (by omega) (by omega) (by omega), fun a ha => ?_, ⟨o2.2.2.2.2.2.2.2, h14⟩, fun i hi h => ?_⟩
  · by_cases e : i = o
    · rw [e]; exact h1
    · unfold ef
      rw [(oC_j ho hi e o1).1, o1.2 (x + 14) (by omega) (by omega) (by omega) (by omega) (by omega) (by omega) (by omega) (by omega)]
  · rcases ha with q | q | q | q | q
    · exact o2.2.2.2.2.2.2.1 a (by omega) (by omega)
    · exact o2.2.2.1 a (by omega) (by omega) (by omega)
    · exact o2.2.2.1 a (by omega) (by omega) (by omega)
    · exact o2.2.2.1 a (by omega) (by omega) (by omega)
    · exact o2.2.2.2.2.2.2.1 a (by omega) (by omega)
  · by_cases e : i = o
    · subst e
      obtain ⟨q1, q2, q3⟩ := h3 h
      exact ⟨q1, by rw [q2], fun d _ => by rw [q3]⟩
    · refine ⟨by rw [(oC_j ho hi e o1).1]; exact h, o2.2.2.2.1 1235 i (by decide) (by decide) e, fun d hd => o2.2.2.2.2.1 1237 i d (by decide) (by decide) e hd⟩
theorem slot_ok (hn : 1000 ≤ n) (hC : C < 899999900) (h : RUN G F W B C x y s t) (hN : Nob n x s) (hk : k < 2 * G 6 8) : ∃ c s2 t2 F2 W2 C2, f87 n (nI k) s = some (c, s2) ∧ f224 n (nI k) t = some t2 ∧ RUN G F2 W2 B C2 x y s2 t2 ∧ C2 ≤ C + 1 ∧ Nob n x s2 ∧ slF x s t s2 t2 := by
  have h88 := (h.2.1.1.1 8 (by decide)).2.2
  have hxx := h.1.1
  have hk16 : k < 16 := by omega
  have ho8 : k / 2 < G 6 8 := by omega
  have ho : k / 2 < 8 := by omega
  obtain ⟨q1, q2, q3⟩ := half16 ⟨k, hk16⟩
  have e1 : nI k / 2 = nI (k / 2) := q1
  have hsv : ∀ (u : zσ) (F2 : Nat → Nat → Nat → Nat) (W2 : Nat → Nat → Nat) (C2 : Nat) (s2 : zσ), RUN G F2 W2 B C2 x y s2 u → Nob n x s2 → f224_24 n u = some u := by
    intro u F2 W2 C2 s2 r nb
    unfold f224_24
    rw [(serve_0 hn r nb).2]
    rfl
  by_cases par : k % 2 = 0
  · have ek : k = 2 * (k / 2) := by omega
    have e2 : nI k - nI k / 2 * 2 = 0 := q2 par
    obtain ⟨s2, t2, F2, W2, C2, a1, a2, a3, a4, a5, a6, a7, a8, a9, a14⟩ := start_ok (n := n) (o := k / 2) (by omega) h ho8 (by omega)
    rw [← ek] at a1
    have nb : Nob n x s2 := by
      by_cases z : s.1 (1036 + 3 * (k / 2)) 3 = 0
      · have nw : ¬ wT (k / 2) s := by unfold wT; rw [z]; decide
        exact Nob_fr hxx hN ho a5 ⟨fun w => absurd w (a8 z).1, fun w => absurd w nw⟩ (fun w => absurd w nw)
      · obtain ⟨b1, b2, b3, b4, b5⟩ := a7 z
        refine Nob_fr hxx hN ho a5 ?_ (fun _ => ⟨b4, b5⟩)
        unfold wT
        rw [b1]
    refine ⟨0, s2, t2, F2, W2, C2, a1, ?_, a3, a4, nb, slF_of hxx ho a5 a6 ?_ a9 a14 (fun q => ?_)⟩
    · unfold f224
      rw [e2, if_pos rfl, e1, a2, gy0]
      exact hsv t2 F2 W2 C2 s2 a3 nb
    · have ex : s2.1 (x + 14) = s.1 (x + 14) := a5.2 (x + 14) (by omega) (by omega) (by omega) (by omega) (by omega) (by omega) (by omega) (by omega)
      unfold ef
      by_cases z : s.1 (1036 + 3 * (k / 2)) 3 = 0
      · rw [if_pos z, ex]
        rcases (a8 z).2 with w | w
        · rw [if_pos w]
        · by_cases z2 : s2.1 (1036 + 3 * (k / 2)) 3 = 0
          · rw [if_pos z2]
          · rw [if_neg z2, w]
      · obtain ⟨b1, b2, b3, b4, b5⟩ := a7 z
        rw [b1, if_neg z, if_neg z, b4 4 (by omega)]
    · obtain ⟨b1, b2, b3, b4, b5⟩ := a7 (by rw [q]; decide)
      exact ⟨by rw [b1]; exact q, b2, b3⟩
  · have ek : k = 2 * (k / 2) + 1 := by omega
    have e2 : ¬ nI k - nI k / 2 * 2 = 0 := q3 (show k % 2 = 1 by omega)
    have eM : f224 n (nI k) t = yb1 (f225 n (nI (k / 2)) t) fun v2 u1 => f224_24 n u1 := by
      unfold f224
      rw [if_neg e2, e1]
    rcases go_ok (n := n) (o := k / 2) h ho8 (by omega) with ⟨a1, a2⟩ | ⟨s2, t2, W2, C2, a1, a2, a3, a4, a5, a6, a7, a8, a9, a10, a11, a12, a13⟩
    · rw [← ek] at a1
      refine ⟨7, s, t, F, W, C, a1, ?_, h, by omega, hN, slF_rf⟩
      rw [eM, a2, gy1]
      exact hsv t F W C s h hN
    · rw [← ek] at a1
      have nb : Nob n x s2 := by
        refine Nob_fr hxx hN ho a5 ?_ (fun _ => ⟨a10, a11⟩)
        unfold wT
        rcases a7 with ⟨w1, w2⟩ | ⟨w1, w2⟩
        · rw [w1, w2]; constructor <;> intro q <;> exact absurd q (by decide)
        · rw [w1, w2]; constructor <;> intro _ <;> decide
      refine ⟨0, s2, t2, F, W2, C2, a1, ?_, a3, a4, nb, slF_of hxx ho a5 a6 ?_ (fun k => Or.inl (by rw [a12])) a13 (fun q => ?_)⟩
      · rw [eM, a2, gy1]
        exact hsv t2 F W2 C2 s2 a3 nb
      · unfold ef
        rcases a7 with ⟨w1, w2⟩ | ⟨w1, w2⟩
        · rw [w1, w2, if_neg (by decide), if_neg (by decide), a10 4 (by omega)]
        · rw [w1, w2, if_neg (by decide), if_neg (by decide), a10 4 (by omega)]
      · rcases a7 with ⟨w1, w2⟩ | ⟨w1, w2⟩
        · rw [w2] at q; exact absurd q (by decide)
        · rw [w2] at q; exact absurd q (by decide)
/-- the schedule k is for the irpt v -/
def el (v k : Nat) (s : zσ) : Prop := s.1 1023 k = -2000000000 ∧ s.1 1026 k = nI v
theorem el_m (h : RUN G F W B C x y s t) (hk : k < 16) (hv : v < 4) : (el v k s → ¬ t.1 1240 k = 0 ∧ t.1 1244 k = nI v) ∧ (¬ el v k s → t.1 1240 k = 0 ∨ ¬ t.1 1244 k = nI v) := by
  obtain ⟨-, -, -, p4, -, -⟩ := gP_of h
  unfold el
  rcases p4.1 k hk with ⟨q1, q2⟩ | ⟨q1, q2, q3, q4, q5, q6, q7⟩
  · rw [q1, q2]
    exact ⟨fun q => absurd q.1 (by decide), fun _ => Or.inl rfl⟩
  · rw [← q6, q1]
    rcases q7 with ⟨w1, -⟩ | ⟨i, w1, w2, w3⟩
    · rw [w1]
      have nv : ¬ (-1 : Int32) = nI v := fun e => (neqM (show v < 2 ^ 31 by omega)).mp e.symm
      exact ⟨fun q => absurd q.2 nv, fun _ => Or.inr nv⟩
    · rw [w3]
      exact ⟨fun q => ⟨by decide, q.2⟩, fun q => Or.inr (fun e => q ⟨rfl, e⟩)⟩
/-- the reference's priority -/
theorem m_262 (h : RUN G F W B C x y s t) (ho : o < G 6 8) : f262 n (nI o) t = some (ef x o s, t) := by
  have h88 := (h.2.1.1.1 8 (by decide)).2.2
  have z8 : zin? (nI o) 8 = true := (zinN (by omega)).mpr (by omega)
  obtain ⟨⟨hxx, hyy, -, -, -, r11, -⟩, ⟨hN, hD, -⟩, -⟩ := id h
  obtain ⟨⟨p, p1, p9, pc, pm⟩, -⟩ := hD.2.2.1 o ho
  obtain ⟨-, ⟨a, k, b1, b2, b3, b4, b5, b6, b7, b8, b9, -⟩, -⟩ := h.2.2.2.2.1 o (by omega) (by omega)
  have a31 : a < 2 ^ 31 := Nat.lt_of_le_of_lt b1 (by decide)
  unfold f262 ef
  rw [if_pos z8, nxN (show o < 2 ^ 31 from Nat.lt_of_lt_of_le ho (Nat.le_trans h88 (by decide))), r11, grd (gck12 hyy), if_pos z8, if_pos z8, b3, b2]
  by_cases q : a = 0
  · have q0 : nI a = 0 := by rw [q]; rfl
    rw [if_pos q0, if_pos q0, pc, pm]
  · have q0 : ¬ nI a = 0 := fun e => q ((neq0 a31).mp e)
    obtain ⟨p', -, -, p3, p4⟩ := b9 q
    rw [if_neg q0, if_neg q0, p3, p4]
end ZCH
