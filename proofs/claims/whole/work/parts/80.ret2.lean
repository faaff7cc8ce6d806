/-! return; the reactions of a block -/
section ZRE
variable {G W : Nat → Nat → Nat} {F : Nat → Nat → Nat → Nat} {B C x y n i : Nat} {s t : zσ}
theorem ret_loop {v : Int32} (hn : 1000 ≤ n) (hC : C < 900000000) : ∀ (d j : Nat) (t : zσ), CL G F W B C x y i (d + 1) s t → 0 < F i 2 d → d + 2 < j → ∃ b r, b < G 0 1 ∧ G 2 b = 1 ∧ r < G 0 0 ∧ s.1 (1036 + 3 * i + 1) (F i 2 d - 1) = nI r ∧ s.1 (x + 22) r = nI (G 3 b) ∧ mR G W B C x y i s t (f130_9 n n (1036 + 3 * i) (nI b) v 0 s) (f253_28 n j (nI i) v 1 t) := by
  intro d
  induction d with
  | zero =>
    intro j t h hl hj
    obtain ⟨-, -, -, -, -, -, -, -, -, -, -, -, c9, -, -⟩ := h
    obtain ⟨-, -, -, -, -, hc⟩ := c9 0 (by omega)
    rcases hc with ⟨-, q, -⟩ | ⟨q, -⟩ | ⟨q, -⟩ <;> omega
  | succ d ih =>
    intro j t h hl hj
    obtain ⟨j, rfl⟩ : ∃ j0, j = j0 + 1 := ⟨j - 1, by omega⟩
    have hi := CL_i h
    obtain ⟨hx, ha, hb1, hu, c1, c2, c3, c4, c5, c6, c7, c8, c9, c10, c11⟩ := id h
    obtain ⟨hb0, -, -, -, -, hc⟩ := c9 (d + 1) (by omega)
    have hB := hx.2.1.2.2.1
    rcases hc with ⟨q, -⟩ | ⟨-, q1, q2, q3, q4⟩ | ⟨-, q1, q2, q3, q4⟩
    · omega
    · -- the proc's own frame
      obtain ⟨-, -, -, -, -, -, ⟨g7, -⟩, -⟩ := hB (F i 0 (d + 1)) hb0
      obtain ⟨-, -, -, g15, -⟩ := hB (G 7 (F i 0 (d + 1))) g7
      rw [Nat.add_sub_cancel] at q2
      obtain ⟨e1, e2, e3, e4, e5⟩ := c10 d (by omega)
      refine ⟨G 7 (F i 0 (d + 1)), F i 1 d, g7, q1, e1, ?_, e5 (by omega) q2, ?_⟩
      · rw [q2, Nat.add_sub_cancel]
        exact e4 (Or.inr q2)
      · obtain ⟨m, rfl⟩ : ∃ m, n = m + 1 := ⟨n - 1, by omega⟩
        obtain ⟨s2, t2, F2, W2, C2, a1, a2, a3, a4, a5, a6⟩ := proc_ret (n := m + 1) (v := v) (it := 0) (j := m) (j2 := m + 1) 3 (by omega) hC h (by omega) g7 q1 rfl (by omega) (by omega) (by omega)
        refine ⟨s2, t2, F2, W2, C2, a1, ?_, a3, a4, a5, a6⟩
        obtain ⟨t1, f1, -⟩ := CL_popB (n := m + 1) (by omega) h q1
        rw [f1, gy1] at a2
        obtain ⟨j, rfl⟩ : ∃ j0, j = j0 + 1 := ⟨j - 1, by omega⟩
        rw [f253_28, if_neg (by decide), f1, gy1, if_neg (by decide), f253_46, f253_28, if_pos rfl]
        unfold f213
        cases hf : f216 (m + 1) (nI i) v t1 with
        | none => rw [hf] at a2; cases a2
        | some u =>
          rw [hf, gy0] at a2
          rw [gy0, a2]
          rfl
    · obtain ⟨t1, f1, f2, f3, f4, f5, f6⟩ := CL_popA (n := n) (by omega) h q1
      rw [Nat.add_sub_cancel] at q2
      obtain ⟨b, r, w1, w2, w3, w4, w5, w6⟩ := ih j t1 f2 (by omega) (by omega)
      refine ⟨b, r, w1, w2, w3, by rw [q2]; exact w4, w5, mR_tr oC_rf f6 ?_⟩
      rw [f253_28, if_neg (by decide), f1, gy1, if_pos rfl, f253_46]
      exact w6
/-- the reaction of a block -/
theorem c_reactL {w : Nat} (hw : w < 20) : ∀ (l : List Nat) (v : Int32) (it j : Nat), cR x s v l → l.length < j → it + l.length < 700 → f44_10 n j (x + 29) (nI w) v (nI it) s = some (match l.find? (fun r => decide (s.1 (x + 35) r = nI w)) with | none => -1 | some r => nI r, s) := by
  intro l
  induction l with
  | nil =>
    intro v it j h hj hit
    obtain ⟨j, rfl⟩ : ∃ j0, j = j0 + 1 := ⟨j - 1, by omega⟩
    have e : v = -1 := h
    simp only [List.length_nil] at hit
    rw [f44_10, if_pos (show nI it < 700 from (nltN (b := 700) (by omega) (by decide)).mpr (by omega)), e, if_pos rfl]
    rfl
  | cons r l ih =>
    intro v it j h hj hit
    obtain ⟨j, rfl⟩ : ∃ j0, j = j0 + 1 := ⟨j - 1, by omega⟩
    obtain ⟨e, hr, h2⟩ := h
    simp only [List.length_cons] at hj hit
    have z7 : zin? (nI r) 700 = true := (zinN (by omega)).mpr hr
    have em : ¬ nI r = -1 := fun q => (neqM (show r < 2 ^ 31 by omega)).mp q
    rw [f44_10, if_pos (show nI it < 700 from (nltN (b := 700) (by omega) (by decide)).mpr (by omega)), e, if_neg em, if_pos z7, nxN (show r < 2 ^ 31 by omega)]
    have e35 : s.1 (x + 29 + 6) r = s.1 (x + 35) r := rfl
    have e34 : s.1 (x + 29 + 5) r = s.1 (x + 34) r := rfl
    rw [e35]
    by_cases q : s.1 (x + 35) r = nI w
    · rw [if_pos q, List.find?_cons_of_pos (by simp [q])]
    · rw [if_neg q, if_pos z7, zlet, e34, nI_1, ih _ (it + 1) j h2 (by omega) (by omega), List.find?_cons_of_neg (by simp [q])]
theorem c_react {b w : Nat} (hn : 30 ≤ n) (hw : w < 20) (hb : b < G 0 1) (h7 : G 0 1 ≤ 700) (hB : tB G x y s t) : (G 11 (20 * b + w) = 0 → f44 n (x + 29) (nI b) (nI w) s = some (-1, s)) ∧ (∀ r, G 11 (20 * b + w) = r + 1 → f44 n (x + 29) (nI b) (nI w) s = some (nI r, s)) := by
  obtain ⟨-, -, -, -, -, -, -, -, l, a9, a10, a11⟩ := hB b hb
  have z7 : zin? (nI b) 700 = true := (zinN (by omega)).mpr (by omega)
  have key := c_reactL (n := n) hw l _ 0 n a9 (by omega) (by omega)
  have e : f44 n (x + 29) (nI b) (nI w) s = f44_10 n n (x + 29) (nI w) (s.1 (x + 33) b) (nI 0) s := by
    simp (disch := omega) only [f44, zlet, ↓reduceIte, z7, nxN, nof0]
  have h11 := a11 w hw
  rw [e, key]
  generalize l.find? (fun r => decide (s.1 (x + 35) r = nI w)) = o at h11 ⊢
  cases o with
  | none =>
    have h11 : G 11 (20 * b + w) = 0 := h11
    exact ⟨fun _ => rfl, fun r h => by omega⟩
  | some q =>
    have h11 : G 11 (20 * b + w) = q + 1 := h11
    exact ⟨fun h => by omega, fun r h => by rw [show q = r by omega]⟩
end ZRE
