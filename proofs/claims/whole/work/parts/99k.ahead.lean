/-! a writer that waits ahead -/
section ZBC
variable {G W : Nat → Nat → Nat} {F : Nat → Nat → Nat → Nat} {B C x y n i j D r v : Nat} {s t : zσ}
/-- task j waits to reserve bolt v -/
def wP (x v j : Nat) (s : zσ) : Prop := (s.1 (1036 + 3 * j) 3 = 3 ∨ s.1 (1036 + 3 * j) 3 = 4) ∧ s.1 (x + 20) (nx (s.1 (1036 + 3 * j + 1) (nx (s.1 (1036 + 3 * j) 10)))) = 161 ∧ s.1 (x + 21) (nx (s.1 (1036 + 3 * j + 1) (nx (s.1 (1036 + 3 * j) 10)))) = nI v
theorem zkd_12 : ∀ k : Fin 29, zkd k.1 = 161 → k.1 = 12 := by decide
theorem zkd_b : ∀ k : Fin 29, zkd k.1 < 200 := by decide
/-- the statement that a task is at -/
theorem at_st (h : RUN G F W B C x y s t) (hj : j < 8) (h0 : ¬ s.1 (1036 + 3 * j) 3 = 0) : ∃ q d, q < G 0 0 ∧ q < 200 ∧ zin? (s.1 (1036 + 3 * j) 10) 9 = true ∧ s.1 (1036 + 3 * j + 1) (nx (s.1 (1036 + 3 * j) 10)) = nI q ∧ f214 n (nI j) t = some (nI d, t) ∧ d < 1120 ∧ t.1 1237 d = nI q := by
  obtain ⟨-, -, hF⟩ := h.2.2.2.2.1 j hj (by omega)
  have n2 := h.2.1.1.2.2.1.2.2.1
  have hD : 0 < F j 3 0 := Nat.pos_of_ne_zero (fun q => h0 (hF.2.2.1.mpr q))
  have l108 := hF.2.1
  obtain ⟨w1, w2, w3, w4, w5, w6, w7, -⟩ := r_top (n := n) hF hj hD
  refine ⟨F j 1 (F j 3 0 - 1), 140 * j + (F j 3 0 - 1), w1, by omega, ?_, ?_, w5, by omega, w7⟩
  · rw [w3]; exact (zinN (by omega)).mpr (by omega)
  · rw [w3, nxN (by omega)]; exact w4
theorem m_228 (h : RUN G F W B C x y s t) (hj : j < 8) : ((s.1 (1036 + 3 * j) 3 = 3 ∨ s.1 (1036 + 3 * j) 3 = 4) → f228 n (nI j) t = some (1, t) ∧ f112 n (1036 + 3 * j) s = some (1, s)) ∧ (¬ (s.1 (1036 + 3 * j) 3 = 3 ∨ s.1 (1036 + 3 * j) 3 = 4) → f228 n (nI j) t = some (0, t) ∧ f112 n (1036 + 3 * j) s = some (0, s)) := by
  have z8 : zin? (nI j) 8 = true := (zinN (by omega)).mpr hj
  have nj := nxN (show j < 2 ^ 31 by omega)
  obtain ⟨-, ⟨a, k, b1, b2, b3, -⟩, -⟩ := h.2.2.2.2.1 j hj (by omega)
  have e : t.1 1225 j = s.1 (1036 + 3 * j) 3 := b3.trans b2.symm
  unfold f228 f228_20 f112 f112_16
  rw [if_pos z8, if_pos z8, nj, e]
  constructor
  · intro q
    by_cases q3 : s.1 (1036 + 3 * j) 3 = 3
    · rw [if_pos q3, if_pos q3]; exact ⟨rfl, rfl⟩
    · rw [if_neg q3, if_neg q3, if_pos (q.resolve_left q3), if_pos (q.resolve_left q3)]; exact ⟨rfl, rfl⟩
  · intro q
    rw [if_neg (fun w => q (Or.inl w)), if_neg (fun w => q (Or.inr w)), if_neg (fun w => q (Or.inl w)), if_neg (fun w => q (Or.inr w))]
    exact ⟨rfl, rfl⟩
/-- both see the same -/
theorem m_234 (h : RUN G F W B C x y s t) (hj : j < 8) (hv : v < 4) : (wP x v j s → f234 n (nI j) 12 (nI v) t = some (1, t)) ∧ (¬ wP x v j s → f234 n (nI j) 12 (nI v) t = some (0, t)) := by
  obtain ⟨w1, w0⟩ := m_228 (n := n) h hj
  by_cases q : s.1 (1036 + 3 * j) 3 = 3 ∨ s.1 (1036 + 3 * j) 3 = 4
  · have h0 : ¬ s.1 (1036 + 3 * j) 3 = 0 := by
      rcases q with q | q <;> rw [q] <;> decide
    obtain ⟨p, d, a1, a2, a3, a4, a5, a6, a7⟩ := at_st (n := n) h hj h0
    have zd : zin? (nI d) 1120 = true := (zinN (by omega)).mpr a6
    have zp : zin? (nI p) 200 = true := (zinN (by omega)).mpr a2
    have np := nxN (show p < 2 ^ 31 by omega)
    obtain ⟨⟨hxx, hyy, -, -, -, r11, -⟩, ⟨hN, -, -, hS⟩, -⟩ := id h
    have k12 := gck12 hyy
    obtain ⟨⟨-, -, s20, s15⟩, -, hO⟩ := hS p a1
    have kr := tO_r hO
    have e0 : f234 n (nI j) 12 (nI v) t = f234_22 n 12 (nI v) (nI p) t := by
      unfold f234
      rw [(w1 q).1, gy1, if_neg (by decide), a5, gy1, if_pos zd, nxN (show d < 2 ^ 31 by omega), a7]
    have e1 : f234_22 n 12 (nI v) (nI p) t = (if t.1 (y + 15) p = 12 then zrd 12 (some y) fun a2 => zrd 12 (some y) fun a3 => if zin? (nI p) 200 = true then if zin? (t.1 (a3 + 17) p) 1400 = true then if (t.1 (a2 + 33) (nx (t.1 (a3 + 17) p))) = nI v then some ((1 : Int32), t) else some ((0 : Int32), t) else none else none else some ((0 : Int32), t)) := by
      unfold f234_22
      rw [if_neg (fun e => (neqM (show p < 2 ^ 31 by omega)).mp e), r11, grd k12, if_pos zp, np]
    have wq : wP x v j s ↔ (s.1 (x + 20) p = 161 ∧ s.1 (x + 21) p = nI v) := by
      unfold wP
      rw [a4, np]
      exact ⟨fun w => w.2, fun w => ⟨q, w⟩⟩
    rw [e0, e1, wq, s15]
    by_cases k : G 10 p = 12
    · obtain ⟨⟨u, v', hu, hv', e17, e33, e21⟩, -⟩ := tO_12 k hO
      have z14 : zin? (nI u) 1400 = true := (zinN (by omega)).mpr hu
      have l4 := hN.2.1
      have s20' : s.1 (x + 20) p = 161 := by rw [s20, k]; rfl
      rw [if_pos (show nI (G 10 p) = 12 by rw [k]; rfl), grd k12, grd k12, if_pos zp, e17, if_pos z14, nxN (show u < 2 ^ 31 by omega), e33, e21]
      constructor
      · intro w
        rw [if_pos w.2]
      · intro w
        rw [if_neg (fun e => w ⟨s20', e⟩)]
    · have k' : ¬ nI (G 10 p) = 12 := fun e => k ((neqN (b := 12) (by omega) (by decide)).mp e)
      rw [if_neg k']
      refine ⟨fun w => ?_, fun _ => rfl⟩
      have := w.1
      rw [s20] at this
      have := (neqN (b := 161) (by have := zkd_b ⟨G 10 p, by omega⟩; simp only at this; omega) (by decide)).mp this
      exact absurd (zkd_12 ⟨G 10 p, by omega⟩ this) k
  · refine ⟨fun w => absurd w.1 q, fun _ => ?_⟩
    unfold f234 f234_22
    rw [(w0 q).1, gy1, if_pos rfl, if_pos rfl]
end ZBC
