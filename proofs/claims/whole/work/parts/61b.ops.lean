/-! the operands of a statement, by its kind -/
section ZOP
variable {G : Nat → Nat → Nat} {x y r : Nat} {s t : zσ}
theorem tO_1 (h : G 10 r = 1) (w : tO G x y r s t) : uV G y (G 1 r) t (s.1 (x + 21) r) (t.1 (y + 17) r) ∧ tE G x y r 1 s t := by
  unfold tO at w
  rcases w with ⟨q, w⟩ | ⟨q, w⟩ | ⟨q, w⟩ | ⟨q, w⟩ | ⟨q, w⟩ | ⟨q, w⟩ | ⟨q, w⟩ | ⟨q, w⟩ | ⟨q, w⟩ | ⟨q, w⟩ | ⟨q, w⟩ | ⟨q, w⟩ | ⟨q, w⟩ | ⟨q, w⟩ | ⟨q, w⟩ | ⟨q, w⟩ | ⟨q, w⟩ | ⟨q, w⟩ | ⟨q, w⟩ | ⟨q, w⟩ | ⟨q, w⟩
  all_goals first | exact w | (exfalso; omega)
theorem tO_2 (h : G 10 r = 2) (w : tO G x y r s t) : uA G y 1 t (s.1 (x + 21) r) (t.1 (y + 17) r) ∧ tE G x y r 2 s t := by
  unfold tO at w
  rcases w with ⟨q, w⟩ | ⟨q, w⟩ | ⟨q, w⟩ | ⟨q, w⟩ | ⟨q, w⟩ | ⟨q, w⟩ | ⟨q, w⟩ | ⟨q, w⟩ | ⟨q, w⟩ | ⟨q, w⟩ | ⟨q, w⟩ | ⟨q, w⟩ | ⟨q, w⟩ | ⟨q, w⟩ | ⟨q, w⟩ | ⟨q, w⟩ | ⟨q, w⟩ | ⟨q, w⟩ | ⟨q, w⟩ | ⟨q, w⟩ | ⟨q, w⟩
  all_goals first | exact w | (exfalso; omega)
theorem tO_3 (h : G 10 r = 3) (w : tO G x y r s t) : ((s.1 (x + 21) r = -1 ∧ t.1 (y + 17) r = -1) ∨ uV G y (G 1 r) t (s.1 (x + 21) r) (t.1 (y + 17) r)) ∧ uA G y 7 t (s.1 (x + 22) r) (t.1 (y + 18) r) ∧ ∃ p, p < G 6 7 ∧ s.1 (x + 22) r = nI p ∧ t.1 (y + 20) r = nI (G 12 p) ∧ tE G x y r (G 12 p) s t := by
  unfold tO at w
  rcases w with ⟨q, w⟩ | ⟨q, w⟩ | ⟨q, w⟩ | ⟨q, w⟩ | ⟨q, w⟩ | ⟨q, w⟩ | ⟨q, w⟩ | ⟨q, w⟩ | ⟨q, w⟩ | ⟨q, w⟩ | ⟨q, w⟩ | ⟨q, w⟩ | ⟨q, w⟩ | ⟨q, w⟩ | ⟨q, w⟩ | ⟨q, w⟩ | ⟨q, w⟩ | ⟨q, w⟩ | ⟨q, w⟩ | ⟨q, w⟩ | ⟨q, w⟩
  all_goals first | exact w | (exfalso; omega)
theorem tO_4 (h : G 10 r = 4) (w : tO G x y r s t) : tE G x y r 1 s t ∧ 8 ≤ G 5 (G 1 r) := by
  unfold tO at w
  rcases w with ⟨q, w⟩ | ⟨q, w⟩ | ⟨q, w⟩ | ⟨q, w⟩ | ⟨q, w⟩ | ⟨q, w⟩ | ⟨q, w⟩ | ⟨q, w⟩ | ⟨q, w⟩ | ⟨q, w⟩ | ⟨q, w⟩ | ⟨q, w⟩ | ⟨q, w⟩ | ⟨q, w⟩ | ⟨q, w⟩ | ⟨q, w⟩ | ⟨q, w⟩ | ⟨q, w⟩ | ⟨q, w⟩ | ⟨q, w⟩ | ⟨q, w⟩
  all_goals first | exact w | (exfalso; omega)
theorem tO_5 (h : G 10 r = 5) (w : tO G x y r s t) : tE G x y r 1 s t ∧ (∃ b, b < G 0 1 ∧ s.1 (x + 21) r = nI b ∧ t.1 (y + 23) r = nI b ∧ G 2 b = 2 ∧ G 3 b = r) ∧ ((s.1 (x + 22) r = -1 ∧ t.1 (y + 24) r = -1) ∨ (∃ b, b < G 0 1 ∧ s.1 (x + 22) r = nI b ∧ t.1 (y + 24) r = nI b ∧ G 2 b = 2 ∧ G 3 b = r)) := by
  unfold tO at w
  rcases w with ⟨q, w⟩ | ⟨q, w⟩ | ⟨q, w⟩ | ⟨q, w⟩ | ⟨q, w⟩ | ⟨q, w⟩ | ⟨q, w⟩ | ⟨q, w⟩ | ⟨q, w⟩ | ⟨q, w⟩ | ⟨q, w⟩ | ⟨q, w⟩ | ⟨q, w⟩ | ⟨q, w⟩ | ⟨q, w⟩ | ⟨q, w⟩ | ⟨q, w⟩ | ⟨q, w⟩ | ⟨q, w⟩ | ⟨q, w⟩ | ⟨q, w⟩
  all_goals first | exact w | (exfalso; omega)
theorem tO_6 (h : G 10 r = 6) (w : tO G x y r s t) : tE G x y r 1 s t ∧ (∃ b, b < G 0 1 ∧ s.1 (x + 21) r = nI b ∧ t.1 (y + 23) r = nI b ∧ G 2 b = 3 ∧ G 3 b = r) ∧ s.1 (x + 22) r = -1 ∧ t.1 (y + 24) r = -1 := by
  unfold tO at w
  rcases w with ⟨q, w⟩ | ⟨q, w⟩ | ⟨q, w⟩ | ⟨q, w⟩ | ⟨q, w⟩ | ⟨q, w⟩ | ⟨q, w⟩ | ⟨q, w⟩ | ⟨q, w⟩ | ⟨q, w⟩ | ⟨q, w⟩ | ⟨q, w⟩ | ⟨q, w⟩ | ⟨q, w⟩ | ⟨q, w⟩ | ⟨q, w⟩ | ⟨q, w⟩ | ⟨q, w⟩ | ⟨q, w⟩ | ⟨q, w⟩ | ⟨q, w⟩
  all_goals first | exact w | (exfalso; omega)
theorem tO_7 (h : G 10 r = 7) (w : tO G x y r s t) : uA G y 1 t (s.1 (x + 21) r) (t.1 (y + 17) r) ∧ tE G x y r 1 s t := by
  unfold tO at w
  rcases w with ⟨q, w⟩ | ⟨q, w⟩ | ⟨q, w⟩ | ⟨q, w⟩ | ⟨q, w⟩ | ⟨q, w⟩ | ⟨q, w⟩ | ⟨q, w⟩ | ⟨q, w⟩ | ⟨q, w⟩ | ⟨q, w⟩ | ⟨q, w⟩ | ⟨q, w⟩ | ⟨q, w⟩ | ⟨q, w⟩ | ⟨q, w⟩ | ⟨q, w⟩ | ⟨q, w⟩ | ⟨q, w⟩ | ⟨q, w⟩ | ⟨q, w⟩
  all_goals first | exact w | (exfalso; omega)
theorem tO_8 (h : G 10 r = 8) (w : tO G x y r s t) : uA G y 1 t (s.1 (x + 21) r) (t.1 (y + 17) r) ∧ uA G y 1 t (s.1 (x + 22) r) (t.1 (y + 18) r) ∧ tE G x y r 0 s t := by
  unfold tO at w
  rcases w with ⟨q, w⟩ | ⟨q, w⟩ | ⟨q, w⟩ | ⟨q, w⟩ | ⟨q, w⟩ | ⟨q, w⟩ | ⟨q, w⟩ | ⟨q, w⟩ | ⟨q, w⟩ | ⟨q, w⟩ | ⟨q, w⟩ | ⟨q, w⟩ | ⟨q, w⟩ | ⟨q, w⟩ | ⟨q, w⟩ | ⟨q, w⟩ | ⟨q, w⟩ | ⟨q, w⟩ | ⟨q, w⟩ | ⟨q, w⟩ | ⟨q, w⟩
  all_goals first | exact w | (exfalso; omega)
theorem tO_9 (h : G 10 r = 9) (w : tO G x y r s t) : uA G y 1 t (s.1 (x + 21) r) (t.1 (y + 17) r) ∧ tE G x y r 0 s t := by
  unfold tO at w
  rcases w with ⟨q, w⟩ | ⟨q, w⟩ | ⟨q, w⟩ | ⟨q, w⟩ | ⟨q, w⟩ | ⟨q, w⟩ | ⟨q, w⟩ | ⟨q, w⟩ | ⟨q, w⟩ | ⟨q, w⟩ | ⟨q, w⟩ | ⟨q, w⟩ | ⟨q, w⟩ | ⟨q, w⟩ | ⟨q, w⟩ | ⟨q, w⟩ | ⟨q, w⟩ | ⟨q, w⟩ | ⟨q, w⟩ | ⟨q, w⟩ | ⟨q, w⟩
  all_goals first | exact w | (exfalso; omega)
theorem tO_10 (h : G 10 r = 10) (w : tO G x y r s t) : tL G x y r s t ∧ tE G x y r 0 s t := by
  unfold tO at w
  rcases w with ⟨q, w⟩ | ⟨q, w⟩ | ⟨q, w⟩ | ⟨q, w⟩ | ⟨q, w⟩ | ⟨q, w⟩ | ⟨q, w⟩ | ⟨q, w⟩ | ⟨q, w⟩ | ⟨q, w⟩ | ⟨q, w⟩ | ⟨q, w⟩ | ⟨q, w⟩ | ⟨q, w⟩ | ⟨q, w⟩ | ⟨q, w⟩ | ⟨q, w⟩ | ⟨q, w⟩ | ⟨q, w⟩ | ⟨q, w⟩ | ⟨q, w⟩
  all_goals first | exact w | (exfalso; omega)
theorem tO_11 (h : G 10 r = 11) (w : tO G x y r s t) : tL G x y r s t ∧ tE G x y r 0 s t := by
  unfold tO at w
  rcases w with ⟨q, w⟩ | ⟨q, w⟩ | ⟨q, w⟩ | ⟨q, w⟩ | ⟨q, w⟩ | ⟨q, w⟩ | ⟨q, w⟩ | ⟨q, w⟩ | ⟨q, w⟩ | ⟨q, w⟩ | ⟨q, w⟩ | ⟨q, w⟩ | ⟨q, w⟩ | ⟨q, w⟩ | ⟨q, w⟩ | ⟨q, w⟩ | ⟨q, w⟩ | ⟨q, w⟩ | ⟨q, w⟩ | ⟨q, w⟩ | ⟨q, w⟩
  all_goals first | exact w | (exfalso; omega)
theorem tO_12 (h : G 10 r = 12) (w : tO G x y r s t) : uA G y 3 t (s.1 (x + 21) r) (t.1 (y + 17) r) ∧ tE G x y r 0 s t := by
  unfold tO at w
  rcases w with ⟨q, w⟩ | ⟨q, w⟩ | ⟨q, w⟩ | ⟨q, w⟩ | ⟨q, w⟩ | ⟨q, w⟩ | ⟨q, w⟩ | ⟨q, w⟩ | ⟨q, w⟩ | ⟨q, w⟩ | ⟨q, w⟩ | ⟨q, w⟩ | ⟨q, w⟩ | ⟨q, w⟩ | ⟨q, w⟩ | ⟨q, w⟩ | ⟨q, w⟩ | ⟨q, w⟩ | ⟨q, w⟩ | ⟨q, w⟩ | ⟨q, w⟩
  all_goals first | exact w | (exfalso; omega)
theorem tO_13 (h : G 10 r = 13) (w : tO G x y r s t) : uA G y 3 t (s.1 (x + 21) r) (t.1 (y + 17) r) ∧ tE G x y r 0 s t := by
  unfold tO at w
  rcases w with ⟨q, w⟩ | ⟨q, w⟩ | ⟨q, w⟩ | ⟨q, w⟩ | ⟨q, w⟩ | ⟨q, w⟩ | ⟨q, w⟩ | ⟨q, w⟩ | ⟨q, w⟩ | ⟨q, w⟩ | ⟨q, w⟩ | ⟨q, w⟩ | ⟨q, w⟩ | ⟨q, w⟩ | ⟨q, w⟩ | ⟨q, w⟩ | ⟨q, w⟩ | ⟨q, w⟩ | ⟨q, w⟩ | ⟨q, w⟩ | ⟨q, w⟩
  all_goals first | exact w | (exfalso; omega)
theorem tO_14 (h : G 10 r = 14) (w : tO G x y r s t) : uA G y 3 t (s.1 (x + 21) r) (t.1 (y + 17) r) ∧ tE G x y r 0 s t := by
  unfold tO at w
  rcases w with ⟨q, w⟩ | ⟨q, w⟩ | ⟨q, w⟩ | ⟨q, w⟩ | ⟨q, w⟩ | ⟨q, w⟩ | ⟨q, w⟩ | ⟨q, w⟩ | ⟨q, w⟩ | ⟨q, w⟩ | ⟨q, w⟩ | ⟨q, w⟩ | ⟨q, w⟩ | ⟨q, w⟩ | ⟨q, w⟩ | ⟨q, w⟩ | ⟨q, w⟩ | ⟨q, w⟩ | ⟨q, w⟩ | ⟨q, w⟩ | ⟨q, w⟩
  all_goals first | exact w | (exfalso; omega)
theorem tO_15 (h : G 10 r = 15) (w : tO G x y r s t) : uA G y 3 t (s.1 (x + 21) r) (t.1 (y + 17) r) ∧ tE G x y r 0 s t := by
  unfold tO at w
  rcases w with ⟨q, w⟩ | ⟨q, w⟩ | ⟨q, w⟩ | ⟨q, w⟩ | ⟨q, w⟩ | ⟨q, w⟩ | ⟨q, w⟩ | ⟨q, w⟩ | ⟨q, w⟩ | ⟨q, w⟩ | ⟨q, w⟩ | ⟨q, w⟩ | ⟨q, w⟩ | ⟨q, w⟩ | ⟨q, w⟩ | ⟨q, w⟩ | ⟨q, w⟩ | ⟨q, w⟩ | ⟨q, w⟩ | ⟨q, w⟩ | ⟨q, w⟩
  all_goals first | exact w | (exfalso; omega)
theorem tO_16 (h : G 10 r = 16) (w : tO G x y r s t) : uA G y 8 t (s.1 (x + 21) r) (t.1 (y + 17) r) ∧ ((t.1 (y + 19) r = nI 0 ∧ s.1 (x + 22) r = -1 ∧ tE G x y r 0 s t) ∨ (t.1 (y + 19) r = nI 1 ∧ s.1 (x + 22) r = 145 ∧ t.1 (y + 20) r = 1 ∧ tE G x y r 1 s t) ∨ (t.1 (y + 19) r = nI 2 ∧ s.1 (x + 22) r = 146 ∧ t.1 (y + 20) r = 1 ∧ tE G x y r 1 s t) ∨ (t.1 (y + 19) r = nI 3 ∧ s.1 (x + 22) r = 147 ∧ t.1 (y + 20) r = 1 ∧ tE G x y r 1 s t) ∨ (t.1 (y + 19) r = nI 3 ∧ s.1 (x + 22) r = 141 ∧ t.1 (y + 20) r = 2 ∧ tE G x y r 2 s t) ∨ (t.1 (y + 19) r = nI 4 ∧ uA G y 4 t (s.1 (x + 22) r) (t.1 (y + 18) r) ∧ tE G x y r 0 s t)) := by
  unfold tO at w
  rcases w with ⟨q, w⟩ | ⟨q, w⟩ | ⟨q, w⟩ | ⟨q, w⟩ | ⟨q, w⟩ | ⟨q, w⟩ | ⟨q, w⟩ | ⟨q, w⟩ | ⟨q, w⟩ | ⟨q, w⟩ | ⟨q, w⟩ | ⟨q, w⟩ | ⟨q, w⟩ | ⟨q, w⟩ | ⟨q, w⟩ | ⟨q, w⟩ | ⟨q, w⟩ | ⟨q, w⟩ | ⟨q, w⟩ | ⟨q, w⟩ | ⟨q, w⟩
  all_goals first | exact w | (exfalso; omega)
theorem tO_17 (h : G 10 r = 17) (w : tO G x y r s t) : uA G y 8 t (s.1 (x + 21) r) (t.1 (y + 17) r) ∧ ((t.1 (y + 19) r = nI 0 ∧ s.1 (x + 22) r = -1 ∧ tE G x y r 0 s t) ∨ (t.1 (y + 19) r = nI 1 ∧ s.1 (x + 22) r = 145 ∧ t.1 (y + 20) r = 1 ∧ tE G x y r 1 s t) ∨ (t.1 (y + 19) r = nI 2 ∧ s.1 (x + 22) r = 146 ∧ t.1 (y + 20) r = 1 ∧ tE G x y r 1 s t) ∨ (t.1 (y + 19) r = nI 3 ∧ s.1 (x + 22) r = 147 ∧ t.1 (y + 20) r = 1 ∧ tE G x y r 1 s t) ∨ (t.1 (y + 19) r = nI 3 ∧ s.1 (x + 22) r = 141 ∧ t.1 (y + 20) r = 2 ∧ tE G x y r 2 s t) ∨ (t.1 (y + 19) r = nI 4 ∧ uA G y 4 t (s.1 (x + 22) r) (t.1 (y + 18) r) ∧ tE G x y r 0 s t)) := by
  unfold tO at w
  rcases w with ⟨q, w⟩ | ⟨q, w⟩ | ⟨q, w⟩ | ⟨q, w⟩ | ⟨q, w⟩ | ⟨q, w⟩ | ⟨q, w⟩ | ⟨q, w⟩ | ⟨q, w⟩ | ⟨q, w⟩ | ⟨q, w⟩ | ⟨q, w⟩ | ⟨q, w⟩ | ⟨q, w⟩ | ⟨q, w⟩ | ⟨q, w⟩ | ⟨q, w⟩ | ⟨q, w⟩ | ⟨q, w⟩ | ⟨q, w⟩ | ⟨q, w⟩
  all_goals first | exact w | (exfalso; omega)
theorem tO_18 (h : G 10 r = 18) (w : tO G x y r s t) : t.1 (y + 19) r = nI 0 ∧ ((s.1 (x + 21) r = -1 ∧ t.1 (y + 17) r = -1) ∨ uA G y 8 t (s.1 (x + 21) r) (t.1 (y + 17) r)) ∧ tE G x y r 0 s t := by
  unfold tO at w
  rcases w with ⟨q, w⟩ | ⟨q, w⟩ | ⟨q, w⟩ | ⟨q, w⟩ | ⟨q, w⟩ | ⟨q, w⟩ | ⟨q, w⟩ | ⟨q, w⟩ | ⟨q, w⟩ | ⟨q, w⟩ | ⟨q, w⟩ | ⟨q, w⟩ | ⟨q, w⟩ | ⟨q, w⟩ | ⟨q, w⟩ | ⟨q, w⟩ | ⟨q, w⟩ | ⟨q, w⟩ | ⟨q, w⟩ | ⟨q, w⟩ | ⟨q, w⟩
  all_goals first | exact w | (exfalso; omega)
theorem tO_19 (h : G 10 r = 19) (w : tO G x y r s t) : t.1 (y + 19) r = nI 0 ∧ uA G y 8 t (s.1 (x + 21) r) (t.1 (y + 17) r) ∧ tE G x y r 0 s t := by
  unfold tO at w
  rcases w with ⟨q, w⟩ | ⟨q, w⟩ | ⟨q, w⟩ | ⟨q, w⟩ | ⟨q, w⟩ | ⟨q, w⟩ | ⟨q, w⟩ | ⟨q, w⟩ | ⟨q, w⟩ | ⟨q, w⟩ | ⟨q, w⟩ | ⟨q, w⟩ | ⟨q, w⟩ | ⟨q, w⟩ | ⟨q, w⟩ | ⟨q, w⟩ | ⟨q, w⟩ | ⟨q, w⟩ | ⟨q, w⟩ | ⟨q, w⟩ | ⟨q, w⟩
  all_goals first | exact w | (exfalso; omega)
theorem tO_20 (h : G 10 r = 20) (w : tO G x y r s t) : t.1 (y + 19) r = nI 0 ∧ uA G y 8 t (s.1 (x + 21) r) (t.1 (y + 17) r) ∧ tE G x y r 1 s t := by
  unfold tO at w
  rcases w with ⟨q, w⟩ | ⟨q, w⟩ | ⟨q, w⟩ | ⟨q, w⟩ | ⟨q, w⟩ | ⟨q, w⟩ | ⟨q, w⟩ | ⟨q, w⟩ | ⟨q, w⟩ | ⟨q, w⟩ | ⟨q, w⟩ | ⟨q, w⟩ | ⟨q, w⟩ | ⟨q, w⟩ | ⟨q, w⟩ | ⟨q, w⟩ | ⟨q, w⟩ | ⟨q, w⟩ | ⟨q, w⟩ | ⟨q, w⟩ | ⟨q, w⟩
  all_goals first | exact w | (exfalso; omega)
theorem tO_21 (h : G 10 r = 21) (w : tO G x y r s t) : t.1 (y + 19) r = nI 0 ∧ uA G y 8 t (s.1 (x + 21) r) (t.1 (y + 17) r) ∧ tE G x y r 0 s t := by
  unfold tO at w
  rcases w with ⟨q, w⟩ | ⟨q, w⟩ | ⟨q, w⟩ | ⟨q, w⟩ | ⟨q, w⟩ | ⟨q, w⟩ | ⟨q, w⟩ | ⟨q, w⟩ | ⟨q, w⟩ | ⟨q, w⟩ | ⟨q, w⟩ | ⟨q, w⟩ | ⟨q, w⟩ | ⟨q, w⟩ | ⟨q, w⟩ | ⟨q, w⟩ | ⟨q, w⟩ | ⟨q, w⟩ | ⟨q, w⟩ | ⟨q, w⟩ | ⟨q, w⟩
  all_goals first | exact w | (exfalso; omega)
theorem tO_22 (h : G 10 r = 22) (w : tO G x y r s t) : tE G x y r 1 s t := by
  unfold tO at w
  rcases w with ⟨q, w⟩ | ⟨q, w⟩ | ⟨q, w⟩ | ⟨q, w⟩ | ⟨q, w⟩ | ⟨q, w⟩ | ⟨q, w⟩ | ⟨q, w⟩ | ⟨q, w⟩ | ⟨q, w⟩ | ⟨q, w⟩ | ⟨q, w⟩ | ⟨q, w⟩ | ⟨q, w⟩ | ⟨q, w⟩ | ⟨q, w⟩ | ⟨q, w⟩ | ⟨q, w⟩ | ⟨q, w⟩ | ⟨q, w⟩ | ⟨q, w⟩
  all_goals first | exact w | (exfalso; omega)
theorem tO_23 (h : G 10 r = 23) (w : tO G x y r s t) : uA G y 5 t (s.1 (x + 21) r) (t.1 (y + 17) r) ∧ uA G y 0 t (s.1 (x + 22) r) (t.1 (y + 18) r) ∧ tE G x y r 0 s t := by
  unfold tO at w
  rcases w with ⟨q, w⟩ | ⟨q, w⟩ | ⟨q, w⟩ | ⟨q, w⟩ | ⟨q, w⟩ | ⟨q, w⟩ | ⟨q, w⟩ | ⟨q, w⟩ | ⟨q, w⟩ | ⟨q, w⟩ | ⟨q, w⟩ | ⟨q, w⟩ | ⟨q, w⟩ | ⟨q, w⟩ | ⟨q, w⟩ | ⟨q, w⟩ | ⟨q, w⟩ | ⟨q, w⟩ | ⟨q, w⟩ | ⟨q, w⟩ | ⟨q, w⟩
  all_goals first | exact w | (exfalso; omega)
theorem tO_24 (h : G 10 r = 24) (w : tO G x y r s t) : uA G y 6 t (s.1 (x + 21) r) (t.1 (y + 17) r) ∧ tE G x y r 1 s t := by
  unfold tO at w
  rcases w with ⟨q, w⟩ | ⟨q, w⟩ | ⟨q, w⟩ | ⟨q, w⟩ | ⟨q, w⟩ | ⟨q, w⟩ | ⟨q, w⟩ | ⟨q, w⟩ | ⟨q, w⟩ | ⟨q, w⟩ | ⟨q, w⟩ | ⟨q, w⟩ | ⟨q, w⟩ | ⟨q, w⟩ | ⟨q, w⟩ | ⟨q, w⟩ | ⟨q, w⟩ | ⟨q, w⟩ | ⟨q, w⟩ | ⟨q, w⟩ | ⟨q, w⟩
  all_goals first | exact w | (exfalso; omega)
theorem tO_25 (h : G 10 r = 25) (w : tO G x y r s t) : uA G y 4 t (s.1 (x + 21) r) (t.1 (y + 17) r) ∧ tE G x y r 0 s t := by
  unfold tO at w
  rcases w with ⟨q, w⟩ | ⟨q, w⟩ | ⟨q, w⟩ | ⟨q, w⟩ | ⟨q, w⟩ | ⟨q, w⟩ | ⟨q, w⟩ | ⟨q, w⟩ | ⟨q, w⟩ | ⟨q, w⟩ | ⟨q, w⟩ | ⟨q, w⟩ | ⟨q, w⟩ | ⟨q, w⟩ | ⟨q, w⟩ | ⟨q, w⟩ | ⟨q, w⟩ | ⟨q, w⟩ | ⟨q, w⟩ | ⟨q, w⟩ | ⟨q, w⟩
  all_goals first | exact w | (exfalso; omega)
theorem tO_26 (h : G 10 r = 26) (w : tO G x y r s t) : uA G y 4 t (s.1 (x + 21) r) (t.1 (y + 17) r) ∧ tE G x y r 0 s t := by
  unfold tO at w
  rcases w with ⟨q, w⟩ | ⟨q, w⟩ | ⟨q, w⟩ | ⟨q, w⟩ | ⟨q, w⟩ | ⟨q, w⟩ | ⟨q, w⟩ | ⟨q, w⟩ | ⟨q, w⟩ | ⟨q, w⟩ | ⟨q, w⟩ | ⟨q, w⟩ | ⟨q, w⟩ | ⟨q, w⟩ | ⟨q, w⟩ | ⟨q, w⟩ | ⟨q, w⟩ | ⟨q, w⟩ | ⟨q, w⟩ | ⟨q, w⟩ | ⟨q, w⟩
  all_goals first | exact w | (exfalso; omega)
theorem tO_27 (h : G 10 r = 27) (w : tO G x y r s t) : uA G y 4 t (s.1 (x + 21) r) (t.1 (y + 17) r) ∧ tE G x y r 0 s t := by
  unfold tO at w
  rcases w with ⟨q, w⟩ | ⟨q, w⟩ | ⟨q, w⟩ | ⟨q, w⟩ | ⟨q, w⟩ | ⟨q, w⟩ | ⟨q, w⟩ | ⟨q, w⟩ | ⟨q, w⟩ | ⟨q, w⟩ | ⟨q, w⟩ | ⟨q, w⟩ | ⟨q, w⟩ | ⟨q, w⟩ | ⟨q, w⟩ | ⟨q, w⟩ | ⟨q, w⟩ | ⟨q, w⟩ | ⟨q, w⟩ | ⟨q, w⟩ | ⟨q, w⟩
  all_goals first | exact w | (exfalso; omega)
theorem tO_28 (h : G 10 r = 28) (w : tO G x y r s t) : tE G x y r 1 s t := by
  unfold tO at w
  rcases w with ⟨q, w⟩ | ⟨q, w⟩ | ⟨q, w⟩ | ⟨q, w⟩ | ⟨q, w⟩ | ⟨q, w⟩ | ⟨q, w⟩ | ⟨q, w⟩ | ⟨q, w⟩ | ⟨q, w⟩ | ⟨q, w⟩ | ⟨q, w⟩ | ⟨q, w⟩ | ⟨q, w⟩ | ⟨q, w⟩ | ⟨q, w⟩ | ⟨q, w⟩ | ⟨q, w⟩ | ⟨q, w⟩ | ⟨q, w⟩ | ⟨q, w⟩
  all_goals first | exact w | (exfalso; omega)
theorem tO_r (w : tO G x y r s t) : 1 ≤ G 10 r ∧ G 10 r ≤ 28 := by
  unfold tO at w
  rcases w with ⟨q, w⟩ | ⟨q, w⟩ | ⟨q, w⟩ | ⟨q, w⟩ | ⟨q, w⟩ | ⟨q, w⟩ | ⟨q, w⟩ | ⟨q, w⟩ | ⟨q, w⟩ | ⟨q, w⟩ | ⟨q, w⟩ | ⟨q, w⟩ | ⟨q, w⟩ | ⟨q, w⟩ | ⟨q, w⟩ | ⟨q, w⟩ | ⟨q, w⟩ | ⟨q, w⟩ | ⟨q, w⟩ | ⟨q, w⟩ | ⟨q, w⟩
  all_goals omega
end ZOP
