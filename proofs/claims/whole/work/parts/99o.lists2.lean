/-! how often a sema stands in a list, for the reference -/
section ZBG
variable {x y n r : Nat} {t : zσ}
theorem drop_q {l : List Nat} {q : Nat} (h : q < l.length) : l.drop q = l.getD q 0 :: l.drop (q + 1) := by
  rw [List.drop_eq_getElem_cons h]
  congr 1
  rw [List.getD_eq_getElem?_getD, List.getElem?_eq_getElem h]
  rfl
theorem m_232L {l : List Nat} {k : Nat} (hyy : y = 1134 ∨ y = 1170) (r11 : t.2.2 1132 11 = some y) (hr : r < 200) (hl : l.length ≤ 4) (hv : ∀ v, v ∈ l → v < 8) (hk : k < 4) (e20 : t.1 (y + 20) r = nI l.length) (hu : ∀ q, q < l.length → ∃ u, u < 1400 ∧ t.1 (y + 21) (4 * r + q) = nI u ∧ t.1 (y + 33) u = nI (l.getD q 0)) : ∀ m q c j, q + m = l.length → m < j → f232_5 n j (nI r) (nI k) (nI c) (nI q) t = some (nI (c + zcn (l.drop q) k), t) := by
  have k12 := gck12 hyy
  have zr : zin? (nI r) 200 = true := (zinN (by omega)).mpr hr
  have nr := nxN (show r < 2 ^ 31 by omega)
  intro m
  induction m with
  | zero =>
    intro q c j hq hj
    obtain ⟨j, rfl⟩ : ∃ j0, j = j0 + 1 := ⟨j - 1, by omega⟩
    rw [f232_5, r11, grd k12, if_pos zr, nr, e20, show q = l.length by omega, if_neg Int32.lt_irrefl, List.drop_length]
    rfl
  | succ m ih =>
    intro q c j hq hj
    obtain ⟨j, rfl⟩ : ∃ j0, j = j0 + 1 := ⟨j - 1, by omega⟩
    obtain ⟨u, hu1, e21, e33⟩ := hu q (by omega)
    have z8 : zin? (nI (4 * r + q)) 800 = true := (zinN (by omega)).mpr (by omega)
    have zu : zin? (nI u) 1400 = true := (zinN (by omega)).mpr hu1
    have dq := drop_q (l := l) (q := q) (by omega)
    have hg : l.getD q 0 < 8 := by
      apply hv
      have : l.getD q 0 ∈ l.drop q := by rw [dq]; exact List.mem_cons_self
      exact List.mem_of_mem_drop this
    rw [f232_5, r11, grd k12, if_pos zr, nr, e20, if_pos ((nltN (by omega) (by omega)).mpr (by omega)), grd k12, grd k12, nLmul, naddN, if_pos z8, nxN (show 4 * r + q < 2 ^ 31 by omega), e21, if_pos zu, nxN (show u < 2 ^ 31 by omega), e33, dq]
    unfold zcn f232_51
    by_cases w : l.getD q 0 = k
    · rw [if_pos (by rw [w]), if_pos w, zlet, naddL, naddL, ih (q + 1) (c + 1) j (by omega) (by omega), Nat.add_assoc]
    · rw [if_neg (fun e => w ((neqN (by omega) (by omega)).mp e)), if_neg w, zlet, naddL, naddL, ih (q + 1) (c + 0) j (by omega) (by omega), Nat.add_assoc]
theorem m_232 {l : List Nat} {k : Nat} (hn : 10 ≤ n) (hyy : y = 1134 ∨ y = 1170) (r11 : t.2.2 1132 11 = some y) (hr : r < 200) (hl : l.length ≤ 4) (hv : ∀ v, v ∈ l → v < 8) (hk : k < 4) (e20 : t.1 (y + 20) r = nI l.length) (hu : ∀ q, q < l.length → ∃ u, u < 1400 ∧ t.1 (y + 21) (4 * r + q) = nI u ∧ t.1 (y + 33) u = nI (l.getD q 0)) : f232 n (nI r) (nI k) t = some (nI (zcn l k), t) := by
  have := m_232L (n := n) hyy r11 hr hl hv hk e20 hu l.length 0 0 n (by omega) (by omega)
  rw [List.drop_zero, Nat.zero_add] at this
  exact this
end ZBG
