/-! a task begins -/
section ZBG
variable {G W : Nat → Nat → Nat} {F : Nat → Nat → Nat → Nat} {B C x y n i : Nat} {s t : zσ}
/-- the first frame of a task that begins -/
def Fb (F : Nat → Nat → Nat → Nat) (i b r : Nat) : Nat → Nat → Nat → Nat := fun j a d => if j = i then (if a = 0 then b else if a = 1 then r else if a = 2 then 0 else 1) else F j a d
/-- it becomes ready -/
def Wr (W : Nat → Nat → Nat) (i : Nat) : Nat → Nat → Nat := fun a j => if a = 0 ∧ j = i then W 4 0 + 1 else if a = 2 ∧ j = i then W 4 1 else if a = 4 ∧ j = 0 then W 4 0 + 1 else if a = 4 ∧ j = 1 then W 4 1 + 1 else W a j
theorem c_awaken {p r : Nat} (hi : i < 8) (hx : x = 1060 ∨ x = 1096) (h8 : s.2.2 1007 8 = some x) (h10 : s.2.2 1007 10 = some (x + 29)) (h0 : s.1 (1036 + 3 * i) 0 = nI i) (hb : s.1 (x + 16) i = nI (G 14 i)) (hb2 : G 14 i < 700) (hf : s.1 (x + 32) (G 14 i) = nI r) (hr : r < 200) (hp : s.1 (x + 14) i = nI p) (hw : s.1 1007 15 = nI (W 4 0)) : f80 n (1036 + 3 * i) s = some (sI (sI (sI (sI (sI (sI (sI s (1036 + 3 * i) 7 (s.1 (1036 + 3 * i) 7 + 1)) (1036 + 3 * i) 3 1) (1036 + 3 * i) 4 (nI p)) (1036 + 3 * i) 10 0) (1036 + 3 * i + 1) 0 (nI r)) 1007 15 (nI (W 4 0 + 1))) (1036 + 3 * i) 11 (nI (W 4 0 + 1))) := by
  obtain ⟨c9, c6, c0⟩ := gck9 hx
  have hf' : s.1 (x + 29 + 3) (G 14 i) = nI r := hf
  simp (disch := omega) only [f80, zlet, hIe, hIk, hIo, gI2, h8, h10, grd c9, grd c0, h0, zinN, nxN, hi, hb, hb2, hf', neqM, if_true, if_false, hp, z0_9, x0_n, hw, naddL]
theorem m_top2 {D : Nat} (hi : i < 8) (hD : t.1 1235 i = nI D) (h0 : 0 < D) (hl : D ≤ 108) : f214 n (nI i) t = some (nI (140 * i + (D - 1)), t) := by
  have e : nI (140 * i + D) - 1 = nI (140 * i + (D - 1)) := by
    rw [show (nI (140 * i + D) - 1 : Int32) = nI (140 * i + D - 1) from nsubL (k := 1) (by omega)]
    congr 1
    omega
  simp (disch := omega) only [f214, zinN, hi, if_true, nxN, hD, nLmul, naddN, e]
/-- nothing is over -/
theorem m_settle1 {g : Int32 → zσ → Option zσ} {D r j : Nat} (hi : i < 8) (hD : t.1 1235 i = nI D) (h0 : 0 < D) (hl : D ≤ 108) (hr : t.1 1237 (140 * i + (D - 1)) = nI r) (hr2 : r < 200) : f213_0 n g (j + 1) (nI i) t = some t := by
  have z : zin? (nI (140 * i + (D - 1))) 1120 = true := (zinN (by omega)).mpr (by omega)
  have q : (0 : Int32) < nI D := (nltN (a := 0) (by decide) (by omega)).mpr h0
  have q2 : ¬ nI D = 0 := fun e => by have := (neq0 (show D < 2 ^ 31 by omega)).mp e; omega
  have z8 : zin? (nI i) 8 = true := (zinN (by omega)).mpr hi
  have q3 : ¬ nI r = -1 := fun e => (neqM (show r < 2 ^ 31 by omega)).mp e
  rw [f213_0, if_pos z8, nxN (show i < 2 ^ 31 by omega), hD, if_pos q, m_top2 hi hD h0 hl, gy1, if_pos z, nxN (show 140 * i + (D - 1) < 2 ^ 31 by omega), hr, if_neg q3]
  unfold f213_103
  rw [if_pos z8, nxN (show i < 2 ^ 31 by omega), hD, if_neg q2]
theorem m_begins {g : Int32 → zσ → Option zσ} {p r : Nat} (hn : 0 < n) (hi : i < 8) (hy : y = 1134 ∨ y = 1170) (h11 : t.2.2 1132 11 = some y) (hb : t.1 (y + 7) i = nI (G 14 i)) (hb2 : G 14 i < 700) (hf : t.1 (y + 13) (G 14 i) = nI r) (hr : r < 200) (hp : t.1 (y + 8) i = nI p) (hw : t.1 1132 30 = nI (W 4 1)) (hd : t.1 1235 i = 0) : f211 n g (nI i) t = some (sI (sI (sI (sI (sI (sI (sI (sI (sI t 1225 i 1) 1226 i (nI p)) 1227 i (nI (W 4 1))) 1132 30 (nI (W 4 1 + 1))) 1231 i (t.1 1231 i + 1)) 1236 (140 * i) (nI (G 14 i))) 1237 (140 * i) (nI r)) 1238 (140 * i) 0) 1235 i 1) := by
  have c12 := gck12 hy
  obtain ⟨n, rfl⟩ : ∃ m, n = m + 1 := ⟨n - 1, by omega⟩
  have e0 : nI (140 * i) + 0 = nI (140 * i) := Int32.add_zero _
  have e1 : (0 : Int32) + 1 = 1 := rfl
  have key : f213_0 (n + 1) g (n + 1) (nI i) (sI (sI (sI (sI (sI (sI (sI (sI (sI t 1225 i 1) 1226 i (nI p)) 1227 i (nI (W 4 1))) 1132 30 (nI (W 4 1 + 1))) 1231 i (t.1 1231 i + 1)) 1236 (140 * i) (nI (G 14 i))) 1237 (140 * i) (nI r)) 1238 (140 * i) 0) 1235 i 1) = _ := m_settle1 (D := 1) (r := r) (j := n) hi (by rw [hIe]; rfl) (by decide) (by decide) (by rw [hIo (by decide), hIo (by decide)]; exact hIe) hr
  have z8 : zin? (nI i) 8 = true := (zinN (by omega)).mpr hi
  have z11 : zin? (nI (140 * i)) 1120 = true := (zinN (by omega)).mpr (by omega)
  have z20 : zin? (nI (G 14 i)) 2000 = true := (zinN (by omega)).mpr (by omega)
  simp (disch := omega) only [f211, f212, zlet, ↓reduceIte, hIe, hIk, hIo, gI2, h11, grd c12, z8, z11, z20, nxN, hb, hf, hp, hw, naddL, hd, nLmul, e0, gnar0, gy0, e1, f213, key]
end ZBG
