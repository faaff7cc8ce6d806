/-! who waits, in which order -/
section ZCA
variable {G W : Nat → Nat → Nat} {F : Nat → Nat → Nat → Nat} {B C x y n i j v : Nat} {s t : zσ}
/-- task j waits -/
def wT (j : Nat) (s : zσ) : Prop := s.1 (1036 + 3 * j) 3 = 3 ∨ s.1 (1036 + 3 * j) 3 = 4
/-- task j is served ahead of task i -/
def zQ (j i : Nat) (s : zσ) : Prop := s.1 (1036 + 3 * j) 4 < s.1 (1036 + 3 * i) 4 ∨ (s.1 (1036 + 3 * j) 4 = s.1 (1036 + 3 * i) 4 ∧ s.1 (1036 + 3 * j) 12 < s.1 (1036 + 3 * i) 12)
theorem zQ_irr : ¬ zQ i i s := by
  rintro (h | ⟨-, h⟩)
  · exact Int32.lt_irrefl h
  · exact Int32.lt_irrefl h
theorem zQ_tr {a b c : Nat} (h1 : zQ a b s) (h2 : zQ b c s) : zQ a c s := by
  unfold zQ at *
  rcases h1 with h1 | ⟨h1, h1'⟩
  · rcases h2 with h2 | ⟨h2, h2'⟩
    · exact Or.inl (Int32.lt_trans h1 h2)
    · exact Or.inl (by rw [← h2]; exact h1)
  · rcases h2 with h2 | ⟨h2, h2'⟩
    · exact Or.inl (by rw [h1]; exact h2)
    · exact Or.inr ⟨h1.trans h2, Int32.lt_trans h1' h2'⟩
theorem w_of (h : RUN G F W B C x y s t) (hj : j < 8) (w : wT j s) : ∃ p, p ≤ 9 ∧ s.1 (1036 + 3 * j) 4 = nI p ∧ t.1 1226 j = nI p ∧ s.1 (1036 + 3 * j) 12 = nI (W 1 j) ∧ t.1 1228 j = nI (W 3 j) ∧ W 1 j < 1000000000 ∧ W 3 j < 1000000000 ∧ j < G 6 8 := by
  obtain ⟨-, ⟨a, k, b1, b2, b3, b4, b5, b6, b7, b8, b9, b10, b11⟩, -⟩ := h.2.2.2.2.1 j hj (by omega)
  obtain ⟨-, -, -, -, p5, -⟩ := gP_of h
  obtain ⟨-, -, w3, w4, w5⟩ := p5
  have a31 : a < 2 ^ 31 := Nat.lt_of_le_of_lt b1 (by decide)
  have a34 : a = 3 ∨ a = 4 := by
    unfold wT at w
    rw [b2] at w
    rcases w with q | q
    · exact Or.inl ((neq3 a31).mp q)
    · exact Or.inr ((neq4 a31).mp q)
  have a0 : a ≠ 0 := by clear b8 b9 b10 b11; omega
  obtain ⟨p, -, p2, p3, p4⟩ := b9 a0
  obtain ⟨q1, q2, q3, q4⟩ := b11 a34
  clear b8 b9 b10 b11
  have hjG : j < G 6 8 := by
    rcases Nat.lt_or_ge j (G 6 8) with q | q
    · exact q
    · exact absurd (b4 q) a0
  exact ⟨p, p2, p3, p4, q1, q2, by omega, by omega, hjG⟩
theorem zQ_tot (h : RUN G F W B C x y s t) (hi : i < 8) (hj : j < 8) (wi : wT i s) (wj : wT j s) (hij : i ≠ j) : zQ i j s ∨ zQ j i s := by
  obtain ⟨p, a1, a2, a3, a4, a5, a6, a7, a8⟩ := w_of h hi wi
  obtain ⟨p', b1, b2, b3, b4, b5, b6, b7, b8⟩ := w_of h hj wj
  have u := ((h.2.2.2.2.2 i j hi hj (by omega) (by omega)) hij).2 wi wj
  unfold zQ
  rw [a2, b2, a4, b4]
  rcases Nat.lt_trichotomy p p' with q | q | q
  · exact Or.inl (Or.inl ((nltN (by omega) (by omega)).mpr q))
  · rcases Nat.lt_or_gt_of_ne u.1 with q2 | q2
    · exact Or.inl (Or.inr ⟨by rw [q], (nltN (by omega) (by omega)).mpr q2⟩)
    · exact Or.inr (Or.inr ⟨by rw [q], (nltN (by omega) (by omega)).mpr q2⟩)
  · exact Or.inr (Or.inl ((nltN (by omega) (by omega)).mpr q))
/-- both ask so -/
theorem ord_ok (h : RUN G F W B C x y s t) (hi : i < 8) (hj : j < 8) (wi : wT i s) (wj : wT j s) : (zQ i j s ∧ f113 n (1036 + 3 * i) (1036 + 3 * j) s = some (1, s) ∧ f229 n (nI i) (nI j) t = some (1, t)) ∨ (¬ zQ i j s ∧ f113 n (1036 + 3 * i) (1036 + 3 * j) s = some (0, s) ∧ f229 n (nI i) (nI j) t = some (0, t)) := by
  obtain ⟨p, a1, a2, a3, a4, a5, a6, a7, a8⟩ := w_of h hi wi
  obtain ⟨p', b1, b2, b3, b4, b5, b6, b7, b8⟩ := w_of h hj wj
  have z1 : zin? (nI i) 8 = true := (zinN (by omega)).mpr hi
  have z2 : zin? (nI j) 8 = true := (zinN (by omega)).mpr hj
  have u : W 1 i < W 1 j ↔ W 3 i < W 3 j := by
    by_cases q : i = j
    · rw [q]; constructor <;> intro q2 <;> omega
    · exact (((h.2.2.2.2.2 i j hi hj (by omega) (by omega)) q).2 wi wj).2
  unfold zQ f113 f113_33 f229
  rw [if_pos z1, if_pos z2, if_pos z1, if_pos z2, if_pos z1, if_pos z2, nxN (show i < 2 ^ 31 by omega), nxN (show j < 2 ^ 31 by omega), a2, b2, a3, b3, a4, b4, a5, b5]
  by_cases q1 : p < p'
  · have c1 : nI p < nI p' := (nltN (by omega) (by omega)).mpr q1
    have c2 : ¬ nI p = nI p' := fun e => by have := (neqN (by omega) (by omega)).mp e; omega
    rw [if_pos c1, if_neg c2, if_pos c1]
    exact Or.inl ⟨Or.inl c1, rfl, rfl⟩
  · have c1 : ¬ nI p < nI p' := fun e => q1 ((nltN (by omega) (by omega)).mp e)
    rw [if_neg c1]
    by_cases q2 : p = p'
    · have c2 : nI p = nI p' := by rw [q2]
      rw [if_pos c2, if_pos c2]
      by_cases q3 : W 1 i < W 1 j
      · have c3 : nI (W 1 i) < nI (W 1 j) := (nltN (by omega) (by omega)).mpr q3
        rw [if_pos c3, if_pos ((nltN (by omega) (by omega)).mpr (u.mp q3))]
        exact Or.inl ⟨Or.inr ⟨c2, c3⟩, rfl, rfl⟩
      · have c3 : ¬ nI (W 1 i) < nI (W 1 j) := fun e => q3 ((nltN (by omega) (by omega)).mp e)
        rw [if_neg c3, if_neg (fun e => q3 (u.mpr ((nltN (by omega) (by omega)).mp e)))]
        exact Or.inr ⟨fun e => e.elim c1 (fun e => c3 e.2), rfl, rfl⟩
    · have c2 : ¬ nI p = nI p' := fun e => q2 ((neqN (by omega) (by omega)).mp e)
      rw [if_neg c2, if_neg c2, if_neg c1]
      exact Or.inr ⟨fun e => e.elim c1 (fun e => c2 e.1), rfl, rfl⟩
/-- a step of the class's search for one ahead -/
theorem c_111q {k : Nat} (h : RUN G F W B C x y s t) (hi : i < 8) (wi : wT i s) (hj : j < G 6 8) : ((wP x v j s ∧ zQ j i s) → f111_2 n (k + 1) (nI v) (1036 + 3 * i) (nI j) s = some (1, s)) ∧ (¬ (wP x v j s ∧ zQ j i s) → f111_2 n (k + 1) (nI v) (1036 + 3 * i) (nI j) s = f111_2 n k (nI v) (1036 + 3 * i) (nI (j + 1)) s) := by
  have h88 := (h.2.1.1.1 8 (by decide)).2.2
  have hj8 : j < 8 := by omega
  have z8 : zin? (nI j) 8 = true := (zinN (by omega)).mpr hj8
  have nj := nxN (show j < 2 ^ 31 by omega)
  obtain ⟨⟨hxx, hyy, -, r9, -, -, rt⟩, -, ⟨dA, -⟩, -⟩ := id h
  obtain ⟨k9, k6, k0⟩ := gck9 hxx
  have a12 : s.1 1007 12 = nI (G 6 8) := dA.2.2.2.2.2.2.2.1
  have z9 : zin? (s.1 (1036 + 3 * j) 10) 9 = true := by
    by_cases q : s.1 (1036 + 3 * j) 3 = 0
    · obtain ⟨-, -, f1, f2, f3, f4, -⟩ := h.2.2.2.2.1 j hj8 (by omega)
      rw [(f4 (f3.mp q)).1]
      decide
    · obtain ⟨p, d, a1, a2, a3, -⟩ := at_st (n := n) h hj8 q
      exact a3
  obtain ⟨w1, w0⟩ := m_228 (n := n) h hj8
  have e0 : f111_2 n (k + 1) (nI v) (1036 + 3 * i) (nI j) s = yb1 (f112 n (1036 + 3 * j) s) fun v4 u3 => if v4 = (0 : Int32) then f111_80 n (f111_2 n k) (nI v) (1036 + 3 * i) (nI j) u3 else yb1 (f113 n (1036 + 3 * j) (1036 + 3 * i) u3) fun v6 u5 => if v6 = (0 : Int32) then f111_80 n (f111_2 n k) (nI v) (1036 + 3 * i) (nI j) u5 else zrd 6 (u5.2.2 1007 9) fun a7 => if zin? (s.1 (1036 + 3 * j + 1) (nx (s.1 (1036 + 3 * j) 10))) 200 = true then if (u5.1 (a7 + 1) (nx (s.1 (1036 + 3 * j + 1) (nx (s.1 (1036 + 3 * j) 10))))) = (161 : Int32) then zrd 6 (u5.2.2 1007 9) fun a8 => if zin? (s.1 (1036 + 3 * j + 1) (nx (s.1 (1036 + 3 * j) 10))) 200 = true then if (u5.1 (a8 + 2) (nx (s.1 (1036 + 3 * j + 1) (nx (s.1 (1036 + 3 * j) 10))))) = nI v then some ((1 : Int32), u5) else f111_80 n (f111_2 n k) (nI v) (1036 + 3 * i) (nI j) u5 else none else f111_80 n (f111_2 n k) (nI v) (1036 + 3 * i) (nI j) u5 else none := by
    rw [f111_2, a12, if_pos ((nltN (by omega) (by omega)).mpr hj), if_pos z8, nj, rt j hj8, grd (gck8 hj8), if_pos z9, zlet]
  have e80 : f111_80 n (f111_2 n k) (nI v) (1036 + 3 * i) (nI j) s = f111_2 n k (nI v) (1036 + 3 * i) (nI (j + 1)) s := by
    unfold f111_80
    rw [naddL]
  rw [e0]
  by_cases q : s.1 (1036 + 3 * j) 3 = 3 ∨ s.1 (1036 + 3 * j) 3 = 4
  · have h0 : ¬ s.1 (1036 + 3 * j) 3 = 0 := by
      rcases q with q | q <;> rw [q] <;> decide
    obtain ⟨p, d, a1, a2, a3, a4, a5, a6, a7⟩ := at_st (n := n) h hj8 h0
    have zp : zin? (nI p) 200 = true := (zinN (by omega)).mpr a2
    have np := nxN (show p < 2 ^ 31 by omega)
    have wq : wP x v j s ↔ (s.1 (x + 20) p = 161 ∧ s.1 (x + 21) p = nI v) := by
      unfold wP
      rw [a4, np]
      exact ⟨fun w => w.2, fun w => ⟨q, w⟩⟩
    rw [(w1 q).2, gy1, if_neg (by decide), wq]
    rcases ord_ok (n := n) h hj8 hi q wi with ⟨c, c1, -⟩ | ⟨c, c1, -⟩
    · rw [c1, gy1, if_neg (by decide), r9, grd k6, grd k6, a4, if_pos zp, np, if_pos zp, e80]
      have e20 : s.1 (x + 19 + 1) p = s.1 (x + 20) p := rfl
      have e21 : s.1 (x + 19 + 2) p = s.1 (x + 21) p := rfl
      rw [e20, e21]
      constructor
      · intro w
        rw [if_pos w.1.1, if_pos w.1.2]
      · intro w
        by_cases c1 : s.1 (x + 20) p = 161
        · rw [if_pos c1, if_neg (fun e => w ⟨⟨c1, e⟩, c⟩)]
        · rw [if_neg c1]
    · rw [c1, gy1, if_pos rfl, e80]
      exact ⟨fun w => absurd w.2 c, fun _ => rfl⟩
  · rw [(w0 q).2, gy1, if_pos rfl, e80]
    exact ⟨fun w => absurd w.1.1 q, fun _ => rfl⟩
/-- the reference's search, when one was found -/
theorem m_153z (h : RUN G F W B C x y s t) : ∀ m j k, j + m = G 6 8 → m < k → f230_153 n k (nI i) (nI v) 0 (nI j) t = some (0, t) := by
  have h88 := (h.2.1.1.1 8 (by decide)).2.2
  intro m
  induction m with
  | zero =>
    intro j k hj hk
    obtain ⟨k, rfl⟩ : ∃ k0, k = k0 + 1 := ⟨k - 1, by omega⟩
    rw [f230_153, m_209 h, gy1, show j = G 6 8 by omega, if_neg Int32.lt_irrefl, if_pos (Or.inl rfl)]
  | succ m ih =>
    intro j k hj hk
    obtain ⟨k, rfl⟩ : ∃ k0, k = k0 + 1 := ⟨k - 1, by omega⟩
    rw [f230_153, m_209 h, gy1, if_pos ((nltN (by omega) (by omega)).mpr (by omega)), if_pos rfl]
    unfold f230_193 f230_194
    rw [naddL]
    exact ih (j + 1) k (by omega) (by omega)
/-- both searches -/
theorem ent_S (h : RUN G F W B C x y s t) (hv : v < 4) (hi : i < 8) (wi : wT i s) : ∀ m j k k', j + m = G 6 8 → m < k → m < k' → ((∃ w, j ≤ w ∧ w < G 6 8 ∧ wP x v w s ∧ zQ w i s) ∧ f111_2 n k (nI v) (1036 + 3 * i) (nI j) s = some (1, s) ∧ f230_153 n k' (nI i) (nI v) 1 (nI j) t = some (0, t)) ∨ ((∀ w, j ≤ w → w < G 6 8 → ¬ (wP x v w s ∧ zQ w i s)) ∧ f111_2 n k (nI v) (1036 + 3 * i) (nI j) s = some (0, s) ∧ f230_153 n k' (nI i) (nI v) 1 (nI j) t = some (1, t)) := by
  have h88 := (h.2.1.1.1 8 (by decide)).2.2
  intro m
  induction m with
  | zero =>
    intro j k k' hj hk hk'
    obtain ⟨k, rfl⟩ : ∃ k0, k = k0 + 1 := ⟨k - 1, by omega⟩
    obtain ⟨k', rfl⟩ : ∃ k0, k' = k0 + 1 := ⟨k' - 1, by omega⟩
    have a12 : s.1 1007 12 = nI (G 6 8) := h.2.2.1.1.2.2.2.2.2.2.2.1
    refine Or.inr ⟨fun w q1 q2 => by omega, ?_, ?_⟩
    · rw [f111_2, a12, show j = G 6 8 by omega, if_neg Int32.lt_irrefl]
    · rw [f230_153, m_209 h, gy1, show j = G 6 8 by omega, if_neg Int32.lt_irrefl, if_pos (Or.inr rfl)]
  | succ m ih =>
    intro j k k' hj hk hk'
    obtain ⟨k, rfl⟩ : ∃ k0, k = k0 + 1 := ⟨k - 1, by omega⟩
    obtain ⟨k', rfl⟩ : ∃ k0, k' = k0 + 1 := ⟨k' - 1, by omega⟩
    have hj8 : j < 8 := by omega
    obtain ⟨c1, c0⟩ := c_111q (n := n) (v := v) (k := k) h hi wi (show j < G 6 8 by omega)
    obtain ⟨m1, m0⟩ := m_234 (n := n) h hj8 hv
    have eM : f230_153 n (k' + 1) (nI i) (nI v) 1 (nI j) t = yb1 (f234 n (nI j) 12 (nI v) t) fun v4 u3 => if v4 = (0 : Int32) then f230_189 n (f230_153 n k') (nI i) (nI v) (nI j) u3 else yb1 (f229 n (nI j) (nI i) u3) fun v6 u5 => if v6 = (0 : Int32) then f230_189 n (f230_153 n k') (nI i) (nI v) (nI j) u5 else f230_193 n (f230_153 n k') (nI i) (nI v) (nI j) u5 := by
      rw [f230_153, m_209 h, gy1, if_pos ((nltN (by omega) (by omega)).mpr (by omega)), if_neg (by decide)]
    have e189 : f230_189 n (f230_153 n k') (nI i) (nI v) (nI j) t = f230_153 n k' (nI i) (nI v) 1 (nI (j + 1)) t := by
      unfold f230_189 f230_194
      rw [naddL]
    have e193 : f230_193 n (f230_153 n k') (nI i) (nI v) (nI j) t = some (0, t) := by
      unfold f230_193 f230_194
      rw [naddL]
      exact m_153z h m (j + 1) k' (by omega) (by omega)
    have nxt := ih (j + 1) k k' (by omega) (by omega) (by omega)
    have go : ¬ (wP x v j s ∧ zQ j i s) → f230_153 n (k' + 1) (nI i) (nI v) 1 (nI j) t = f230_153 n k' (nI i) (nI v) 1 (nI (j + 1)) t → ((∃ w, j ≤ w ∧ w < G 6 8 ∧ wP x v w s ∧ zQ w i s) ∧ f111_2 n (k + 1) (nI v) (1036 + 3 * i) (nI j) s = some (1, s) ∧ f230_153 n (k' + 1) (nI i) (nI v) 1 (nI j) t = some (0, t)) ∨ ((∀ w, j ≤ w → w < G 6 8 → ¬ (wP x v w s ∧ zQ w i s)) ∧ f111_2 n (k + 1) (nI v) (1036 + 3 * i) (nI j) s = some (0, s) ∧ f230_153 n (k' + 1) (nI i) (nI v) 1 (nI j) t = some (1, t)) := by
      intro q e
      rw [c0 q, e]
      rcases nxt with ⟨⟨w, n1, n2, n3⟩, n4, n5⟩ | ⟨n1, n2, n3⟩
      · exact Or.inl ⟨⟨w, by omega, n2, n3⟩, n4, n5⟩
      · refine Or.inr ⟨fun w w1 w2 => ?_, n2, n3⟩
        by_cases e : w = j
        · rw [e]; exact q
        · exact n1 w (by omega) w2
    by_cases q : wP x v j s
    · rw [m1 q, gy1, if_neg (by decide)] at eM
      rcases ord_ok (n := n) h hj8 hi q.1 wi with ⟨c, -, c2⟩ | ⟨c, -, c2⟩
      · rw [c2, gy1, if_neg (by decide), e193] at eM
        exact Or.inl ⟨⟨j, Nat.le_refl _, by omega, q, c⟩, c1 ⟨q, c⟩, eM⟩
      · rw [c2, gy1, if_pos rfl, e189] at eM
        exact go (fun w => c w.2) eM
    · rw [m0 q, gy1, if_pos rfl, e189] at eM
      exact go (fun w => q w.1) eM
end ZCA
