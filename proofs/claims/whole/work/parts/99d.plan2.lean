/-! the acts start and go with a time -/
section ZAW
variable {G W W2 : Nat → Nat → Nat} {F F2 : Nat → Nat → Nat → Nat} {B C B2 C2 x y n i D r o v u kk : Nat} {s t s2 t2 : zσ}
theorem plan_num {x2 x4 a0 un k4 e : Int32} {X6 : Int64} {bad : Prop} [Decidable bad] (hb : bR B C n) (h : aH G F W B C x y i D r s2 t2) (h69 : t2.1 1132 69 = 0) (c1 : f90 n (1036 + 3 * i) (nI r) s = some (0, s2)) (hk : kk < 2 * G 6 8) (hC : f97 n (1036 + 3 * i) (nI r) s2 = (if bad then some ((9 : Int32), s2) else if (1000000000 : Int64) < X6 then some ((9 : Int32), s2) else if (un).toInt64 < X6 then some ((9 : Int32), s2) else f124_154 n (nI kk) x2 1 x4 a0 X6 un s2)) (hM : f242 n (nI i) (nI r) t = (if bad then f264_226 n t2 else if (1000000000 : Int64) < X6 then f264_226 n t2 else if (un).toInt64 < X6 then f264_226 n t2 else f264_264 n (nI i) (nI r) (nI kk) k4 X6 e un t2)) (h4 : ¬ k4 = 4) (he : (x4 = 0 ∧ e = 0) ∨ (¬ x4 = 0 ∧ e = a0)) (hv : ¬ bad → ¬ (1000000000 : Int64) < X6 → ∃ a b, a ≤ 1000000000 ∧ b ≤ 1000000000 ∧ X6.toInt32 = nI a ∧ e = nI b ∧ (b = 0 ∨ s2.1 1007 14 + nI (G 22 0) ≤ nI a)) : pR G B C x y (cP n i r s) (mP n i r t) := by
  have s9 : f97 n (1036 + 3 * i) (nI r) s2 = some ((9 : Int32), s2) → f242 n (nI i) (nI r) t = f264_226 n t2 → pR G B C x y (cP n i r s) (mP n i r t) := by
    intro q1 q2
    have h3 : aH G F W B C x y i D r s2 (sI t2 1132 69 (nI 9)) := aH_sc scC_rf scM_69 h
    refine sig_2 hb h3 (by decide) hIe c1 q1 ?_
    rw [q2]
    unfold f264_226
    rw [show (9 : Int32) = nI 9 from rfl, m_sig h69]
    rfl
  by_cases q1 : bad
  · rw [if_pos q1] at hC hM
    exact s9 hC hM
  · by_cases q2 : (1000000000 : Int64) < X6
    · rw [if_neg q1, if_pos q2] at hC hM
      exact s9 hC hM
    · by_cases q3 : un.toInt64 < X6
      · rw [if_neg q1, if_neg q2, if_pos q3] at hC hM
        exact s9 hC hM
      · rw [if_neg q1, if_neg q2, if_neg q3] at hC hM
        exact plan_fin hb h h69 c1 hk hC hM (Or.inr ⟨by decide, rfl, rfl⟩) he rfl (Or.inr ⟨h4, rfl⟩) (Or.inl ⟨rfl, hv q1 q2⟩)
theorem i64_lt1 {a : Int32} : a.toInt64 < 1 ↔ a < 1 := Int32.toInt64_lt (a := a) (b := 1)
theorem c_145 : f124 n (nI kk) 145 s = (if s.1 1033 0 < s.1 1007 14 then some ((9 : Int32), s) else if (1000000000 : Int64) < (s.1 1033 0).toInt64 then some ((9 : Int32), s) else if ((2147483647 : Int32)).toInt64 < (s.1 1033 0).toInt64 then some ((9 : Int32), s) else f124_154 n (nI kk) 145 1 0 (s.1 1033 0) (s.1 1033 0).toInt64 (2147483647) s) := by
  simp (config := {decide := true}) only [f124, f124_12, f124_27, f124_32, f124_64, f124_85, f124_122, zlet, ↓reduceIte, z0_64, x0_n, z1_64, x1_n]
theorem c_146 : f124 n (nI kk) 146 s = (if s.1 1033 0 < 1 then some ((9 : Int32), s) else if (1000000000 : Int64) < ((s.1 1007 14).toInt64 + (s.1 1033 0).toInt64) then some ((9 : Int32), s) else if ((2147483647 : Int32)).toInt64 < ((s.1 1007 14).toInt64 + (s.1 1033 0).toInt64) then some ((9 : Int32), s) else f124_154 n (nI kk) 146 1 0 (s.1 1033 0) ((s.1 1007 14).toInt64 + (s.1 1033 0).toInt64) (2147483647) s) := by
  simp (config := {decide := true}) only [f124, f124_12, f124_27, f124_32, f124_64, f124_85, f124_122, zlet, ↓reduceIte, z0_64, x0_n, z1_64, x1_n]
theorem c_147 : f124 n (nI kk) 147 s = (if s.1 1033 0 < 1 then some ((9 : Int32), s) else if (1000000000 : Int64) < ((s.1 1007 14).toInt64 + (s.1 1033 0).toInt64) then some ((9 : Int32), s) else if ((2147483647 : Int32)).toInt64 < ((s.1 1007 14).toInt64 + (s.1 1033 0).toInt64) then some ((9 : Int32), s) else f124_154 n (nI kk) 147 1 1 (s.1 1033 0) ((s.1 1007 14).toInt64 + (s.1 1033 0).toInt64) (2147483647) s) := by
  simp (config := {decide := true}) only [f124, f124_12, f124_27, f124_32, f124_64, f124_85, f124_122, zlet, ↓reduceIte, z0_64, x0_n, z1_64, x1_n]
theorem c_141 : f124 n (nI kk) 141 s = (if s.1 1033 0 < 1 then some ((9 : Int32), s) else if (1000000000 : Int64) < ((s.1 1007 14).toInt64 + (s.1 1033 0).toInt64) then some ((9 : Int32), s) else if ((s.1 1033 1 : Int32)).toInt64 < ((s.1 1007 14).toInt64 + (s.1 1033 0).toInt64) then some ((9 : Int32), s) else f124_154 n (nI kk) 141 1 1 (s.1 1033 0) ((s.1 1007 14).toInt64 + (s.1 1033 0).toInt64) (s.1 1033 1) s) := by
  simp (config := {decide := true}) only [f124, f124_12, f124_27, f124_32, f124_64, f124_85, f124_122, zlet, ↓reduceIte, z0_64, x0_n, z1_64, x1_n]
theorem c_irpt {j : Nat} (hj : j < 4) : ∃ x5 x6, f124 n (nI kk) (nI j) s = f124_154 n (nI kk) (nI j) 0 0 x5 x6 2147483647 s := by
  have q1 : nI j < 141 := (nltN (b := 141) (by omega) (by decide)).mpr (by omega)
  have q2 : ¬ nI j = 147 := fun e => by have := (neqN (b := 147) (by omega) (by decide)).mp e; omega
  have q3 : ¬ nI j = 141 := fun e => by have := (neqN (b := 141) (by omega) (by decide)).mp e; omega
  have q4 : ¬ nI j = 145 := fun e => by have := (neqN (b := 145) (by omega) (by decide)).mp e; omega
  refine ⟨s.1 1033 0, (s.1 1007 14).toInt64 + (s.1 1033 0).toInt64, ?_⟩
  simp only [f124, f124_12, f124_32, f124_64, f124_85, f124_122, zlet, ↓reduceIte, z0_64, x0_n, q1, q2, q3, q4, ite_self]
theorem m_k1 {a un : Int32} {I R K : Int32} (m1 : t.1 1132 69 = 0) : f264_133 n I R K 1 a.toInt64 (2147483647) t = (if a < t.1 1132 20 then f264_226 n t else if (1000000000 : Int64) < a.toInt64 then f264_226 n t else if ((2147483647 : Int32)).toInt64 < a.toInt64 then f264_226 n t else f264_264 n I R K 1 a.toInt64 0 (2147483647) t) := by
  simp (config := {decide := true}) only [f264_133, f264_162, f264_201, f264_246, f264_262, m1, ↓reduceIte, i64_lt, i64_lt1, Int32.toInt32_toInt64]
theorem m_k2 {a un : Int32} {I R K : Int32} (m1 : t.1 1132 69 = 0) : f264_133 n I R K 2 a.toInt64 (2147483647) t = (if a < 1 then f264_226 n t else if (1000000000 : Int64) < ((t.1 1132 20).toInt64 + a.toInt64) then f264_226 n t else if ((2147483647 : Int32)).toInt64 < ((t.1 1132 20).toInt64 + a.toInt64) then f264_226 n t else f264_264 n I R K 2 ((t.1 1132 20).toInt64 + a.toInt64) 0 (2147483647) t) := by
  simp (config := {decide := true}) only [f264_133, f264_162, f264_201, f264_246, f264_262, m1, ↓reduceIte, i64_lt, i64_lt1, Int32.toInt32_toInt64]
theorem m_k3 {a un : Int32} {I R K : Int32} (m1 : t.1 1132 69 = 0) : f264_133 n I R K 3 a.toInt64 (un) t = (if a < 1 then f264_226 n t else if (1000000000 : Int64) < ((t.1 1132 20).toInt64 + a.toInt64) then f264_226 n t else if ((un : Int32)).toInt64 < ((t.1 1132 20).toInt64 + a.toInt64) then f264_226 n t else f264_264 n I R K 3 ((t.1 1132 20).toInt64 + a.toInt64) a (un) t) := by
  simp (config := {decide := true}) only [f264_133, f264_162, f264_201, f264_246, f264_262, m1, ↓reduceIte, i64_lt, i64_lt1, Int32.toInt32_toInt64]
end ZAW
