/-! the end of the second pass: blocks and statements of the text -/
section ZRT
variable {x y na nb : Nat} {s t : zσ} {G : Nat → Nat → Nat} {cnt : Nat → Nat}
/-- all ghosts of the text -/
def Gf (x y : Nat) (s t : zσ) (G : Nat → Nat → Nat) : Nat → Nat → Nat := fun f k => if f = 8 then (if s.1 (x + 25) k = -1 then 0 else nx (s.1 (x + 25) k) + 1) else if f = 9 then (if s.1 (x + 32) k = -1 then 0 else nx (s.1 (x + 32) k) + 1) else if f = 11 then (if t.1 (y + 14) k = -1 then 0 else nx (t.1 (y + 14) k) + 1) else if f = 14 then nx (s.1 (x + 16) k) else if f = 15 then nx (s.1 (x + 17) k) else G f k
theorem Gf_o {f k : Nat} (h : f ≠ 8 ∧ f ≠ 9 ∧ f ≠ 11 ∧ f ≠ 14 ∧ f ≠ 15) : Gf x y s t G f k = G f k := by
  unfold Gf
  rw [if_neg h.1, if_neg h.2.1, if_neg h.2.2.1, if_neg h.2.2.2.1, if_neg h.2.2.2.2]
theorem Gf_n {v : Int32} (h : v = -1 ∨ ∃ r, r < 2 ^ 31 ∧ v = nI r) : (v = -1 → (if v = -1 then 0 else nx v + 1) = 0) ∧ (∀ r, r < 2 ^ 31 → v = nI r → (if v = -1 then 0 else nx v + 1) = r + 1) := by
  constructor
  · intro e; rw [if_pos e]
  · intro r hr e
    rw [e, if_neg (fun e2 => (neqM hr).mp e2), nx_nI hr]
theorem tB_end (hna : G 0 0 = na ∧ na ≤ 200) (hnb : G 0 1 = nb ∧ nb ≤ 700) (h8 : G 6 8 = cnt 8) (h7 : G 6 7 = cnt 7) (hh : ∀ b, b < nb → (G 2 b = 0 → G 3 b < cnt 8 ∧ s.1 (x + 16) (G 3 b) = nI b) ∧ (G 2 b = 1 → G 3 b < cnt 7 ∧ s.1 (x + 17) (G 3 b) = nI b)) (hB : ∀ b, b < nb → dB G x y na nb b s t) : tB (Gf x y s t G) x y s t := by
  have go : ∀ f k, f ≠ 8 ∧ f ≠ 9 ∧ f ≠ 11 ∧ f ≠ 14 ∧ f ≠ 15 → Gf x y s t G f k = G f k := fun f k h => Gf_o h
  have g0 := fun k => go 0 k (by omega)
  have g1 := fun k => go 1 k (by omega)
  have g2 := fun k => go 2 k (by omega)
  have g3 := fun k => go 3 k (by omega)
  have g4 := fun k => go 4 k (by omega)
  have g5 := fun k => go 5 k (by omega)
  have g6 := fun k => go 6 k (by omega)
  have g7 := fun k => go 7 k (by omega)
  have g10 := fun k => go 10 k (by omega)
  intro b hb
  rw [g0, hnb.1] at hb
  obtain ⟨a1, a2, a3, a4, a5, a6, a7, l, l1, l2, l3, l4⟩ := hB b hb
  have e11 : ∀ w, w < 20 → (Gf x y s t G 11 (20 * b + w) = 0 ∧ t.1 (y + 14) (20 * b + w) = -1 ∧ l.find? (fun r => decide (s.1 (x + 35) r = nI w)) = none) ∨ (∃ r, r < nb ∧ Gf x y s t G 11 (20 * b + w) = r + 1 ∧ t.1 (y + 14) (20 * b + w) = nI r ∧ G 2 r = 4 ∧ G 3 r = b ∧ l.find? (fun r => decide (s.1 (x + 35) r = nI w)) = some r) := fun w hw => by
    have e : Gf x y s t G 11 (20 * b + w) = if t.1 (y + 14) (20 * b + w) = -1 then 0 else nx (t.1 (y + 14) (20 * b + w)) + 1 := rfl
    rcases l4 w hw with ⟨k1, k2⟩ | ⟨r, k1, k2⟩
    · exact Or.inl ⟨by rw [e, if_pos k1], k1, k2⟩
    · obtain ⟨m1, m2, m3⟩ := l3 r (List.mem_of_find?_eq_some k2)
      exact Or.inr ⟨r, m3, by rw [e]; exact (Gf_n (Or.inr ⟨r, by omega, k1⟩)).2 r (by omega) k1, k1, m1, m2, k2⟩
  refine ⟨by rw [g2, g3, g4]; exact a1, ?_, fun e => ?_, fun e => ?_, fun e => ?_, fun e => ?_, ?_, fun w hw => ?_, l, l1, l2, fun w hw => ?_⟩
  · have e : Gf x y s t G 9 b = if s.1 (x + 32) b = -1 then 0 else nx (s.1 (x + 32) b) + 1 := rfl
    rcases a2 with ⟨k1, k2⟩ | ⟨r, k1, k2, k3, k4⟩
    · exact Or.inl ⟨by rw [e, if_pos k1], k1, k2⟩
    · exact Or.inr ⟨r, by rw [e]; exact (Gf_n (Or.inr ⟨r, by omega, k3⟩)).2 r (by omega) k3, by rw [g0, hna.1]; exact k1, by rw [g1]; exact k2, k3, k4⟩
  · rw [g2] at e
    obtain ⟨k1, k2⟩ := (hh b hb).1 e
    have e14 : Gf x y s t G 14 (G 3 b) = nx (s.1 (x + 16) (G 3 b)) := rfl
    rw [g3, g5, g6, g7, e14, k2, nx_nI (show b < 2 ^ 31 by omega), h8]
    exact ⟨k1, (a3 e).1, (a3 e).2, rfl⟩
  · rw [g2] at e
    obtain ⟨k1, k2⟩ := (hh b hb).2 e
    have e15 : Gf x y s t G 15 (G 3 b) = nx (s.1 (x + 17) (G 3 b)) := rfl
    rw [g3, g5, g6, g7, e15, k2, nx_nI (show b < 2 ^ 31 by omega), h7]
    exact ⟨k1, (a4 e).1, (a4 e).2, rfl⟩
  · rw [g2] at e
    rw [g3, g4, g5, g7, g10, g2, g0, hna.1, g1, g4, g5]
    exact a5 e
  · rw [g2] at e
    rw [g3, g4, g5, g7, g0, hnb.1, g4, g5, g7]
    exact a6 e
  · rw [g7, g2, g5, g5, g4, g4, g0, hnb.1]
    exact a7
  · rcases e11 w hw with ⟨k1, k2, -⟩ | ⟨r, k1, k2, k3, k4, k5, -⟩
    · exact Or.inl ⟨k1, k2⟩
    · exact Or.inr ⟨r, k2, by rw [g0, hnb.1]; exact k1, k3, by rw [g2]; exact k4, by rw [g3]; exact k5⟩
  · rcases e11 w hw with ⟨k1, -, k3⟩ | ⟨r, -, k2, -, -, -, k6⟩
    · rw [k1, k3]
    · rw [k2, k6]
theorem tO_f {r : Nat} (h : tO G x y r s t) : tO (Gf x y s t G) x y r s t := h
theorem tS_end (hna : G 0 0 = na ∧ na ≤ 200) (hS : ∀ r, r < na → dS0 G x y r s t ∧ dN G x y na r s t) : tS (Gf x y s t G) x y s t := by
  have go : ∀ f k, f ≠ 8 ∧ f ≠ 9 ∧ f ≠ 11 ∧ f ≠ 14 ∧ f ≠ 15 → Gf x y s t G f k = G f k := fun f k h => Gf_o h
  have g0 := fun k => go 0 k (by omega)
  have g1 := fun k => go 1 k (by omega)
  have g10 := fun k => go 10 k (by omega)
  intro r hr
  rw [g0, hna.1] at hr
  obtain ⟨⟨a1, a2⟩, a3⟩ := hS r hr
  refine ⟨by rw [g1, g10, g0]; exact a1, ?_, tO_f a2⟩
  have e : Gf x y s t G 8 r = if s.1 (x + 25) r = -1 then 0 else nx (s.1 (x + 25) r) + 1 := rfl
  rcases a3 with ⟨k1, k2⟩ | ⟨q, k1, k2, k3, k4⟩
  · exact Or.inl ⟨by rw [e, if_pos k1], k1, k2⟩
  · exact Or.inr ⟨q, by rw [e]; exact (Gf_n (Or.inr ⟨q, by omega, k3⟩)).2 q (by omega) k3, by rw [g0, hna.1]; exact k1, by rw [g1, g1]; exact k2, k3, k4⟩
end ZRT
