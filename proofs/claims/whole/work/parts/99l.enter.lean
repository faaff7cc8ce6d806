/-! the act enter -/
section ZBD
variable {G W : Nat → Nat → Nat} {F : Nat → Nat → Nat → Nat} {B C x y n i j D r v : Nat} {s t s2 t2 : zσ}
theorem pri_of (h : RUN G F W B C x y s t) (hj : j < 8) (h0 : ¬ s.1 (1036 + 3 * j) 3 = 0) : ∃ p, p ≤ 9 ∧ s.1 (1036 + 3 * j) 4 = nI p ∧ t.1 1226 j = nI p := by
  obtain ⟨-, ⟨a, k, b1, b2, b3, b4, b5, b6, b7, b8, b9, -⟩, -⟩ := h.2.2.2.2.1 j hj (by omega)
  have a0 : a ≠ 0 := fun q => h0 (by rw [b2, q]; rfl)
  obtain ⟨p, -, p2, p3, p4⟩ := b9 a0
  exact ⟨p, p2, p3, p4⟩
/-- a step of the class's search -/
theorem c_111 {k : Nat} (h : RUN G F W B C x y s t) (hi : i < 8) (hj : j < G 6 8) (hi0 : ¬ s.1 (1036 + 3 * i) 3 = 0) (hst : (s.1 (1036 + 3 * j) 3 = 3 ∨ s.1 (1036 + 3 * j) 3 = 4) → s.1 (1036 + 3 * j) 12 < s.1 (1036 + 3 * i) 12) : ((wP x v j s ∧ ¬ t.1 1226 i < t.1 1226 j) → f111_2 n (k + 1) (nI v) (1036 + 3 * i) (nI j) s = some (1, s)) ∧ (¬ (wP x v j s ∧ ¬ t.1 1226 i < t.1 1226 j) → f111_2 n (k + 1) (nI v) (1036 + 3 * i) (nI j) s = f111_2 n k (nI v) (1036 + 3 * i) (nI (j + 1)) s) := by
  have h88 := (h.2.1.1.1 8 (by decide)).2.2
  have hj8 : j < 8 := by omega
  have z8 : zin? (nI j) 8 = true := (zinN (by omega)).mpr hj8
  have nj := nxN (show j < 2 ^ 31 by omega)
  obtain ⟨⟨hxx, hyy, -, r9, -, -, rt⟩, -, ⟨dA, -⟩, -⟩ := id h
  obtain ⟨k9, k6, k0⟩ := gck9 hxx
  have a12 : s.1 1007 12 = nI (G 6 8) := dA.2.2.2.2.2.2.2.1
  have z9 : zin? (s.1 (1036 + 3 * j) 10) 9 = true := by
    by_cases q : s.1 (1036 + 3 * j) 3 = 0
    · obtain ⟨-, -, f1, f2, f3, f4, -⟩ := h.2.2.2.2.1 j hj8 (by omega)
      rw [(f4 (f3.mp q)).1]
      decide
    · obtain ⟨p, d, a1, a2, a3, -⟩ := at_st (n := n) h hj8 q
      exact a3
  obtain ⟨w1, w0⟩ := m_228 (n := n) h hj8
  have e0 : f111_2 n (k + 1) (nI v) (1036 + 3 * i) (nI j) s = yb1 (f112 n (1036 + 3 * j) s) fun v4 u3 => if v4 = (0 : Int32) then f111_80 n (f111_2 n k) (nI v) (1036 + 3 * i) (nI j) u3 else yb1 (f113 n (1036 + 3 * j) (1036 + 3 * i) u3) fun v6 u5 => if v6 = (0 : Int32) then f111_80 n (f111_2 n k) (nI v) (1036 + 3 * i) (nI j) u5 else zrd 6 (u5.2.2 1007 9) fun a7 => if zin? (s.1 (1036 + 3 * j + 1) (nx (s.1 (1036 + 3 * j) 10))) 200 = true then if (u5.1 (a7 + 1) (nx (s.1 (1036 + 3 * j + 1) (nx (s.1 (1036 + 3 * j) 10))))) = (161 : Int32) then zrd 6 (u5.2.2 1007 9) fun a8 => if zin? (s.1 (1036 + 3 * j + 1) (nx (s.1 (1036 + 3 * j) 10))) 200 = true then if (u5.1 (a8 + 2) (nx (s.1 (1036 + 3 * j + 1) (nx (s.1 (1036 + 3 * j) 10))))) = nI v then some ((1 : Int32), u5) else f111_80 n (f111_2 n k) (nI v) (1036 + 3 * i) (nI j) u5 else none else f111_80 n (f111_2 n k) (nI v) (1036 + 3 * i) (nI j) u5 else none := by
    rw [f111_2, a12, if_pos ((nltN (by omega) (by omega)).mpr hj), if_pos z8, nj, rt j hj8, grd (gck8 hj8), if_pos z9, zlet]
  have e80 : f111_80 n (f111_2 n k) (nI v) (1036 + 3 * i) (nI j) s = f111_2 n k (nI v) (1036 + 3 * i) (nI (j + 1)) s := by
    unfold f111_80
    rw [naddL]
  rw [e0]
  by_cases q : s.1 (1036 + 3 * j) 3 = 3 ∨ s.1 (1036 + 3 * j) 3 = 4
  · have h0 : ¬ s.1 (1036 + 3 * j) 3 = 0 := by
      rcases q with q | q <;> rw [q] <;> decide
    obtain ⟨pj, l1, l2, l3⟩ := pri_of h hj8 h0
    obtain ⟨pi, l4, l5, l6⟩ := pri_of h hi hi0
    obtain ⟨p, d, a1, a2, a3, a4, a5, a6, a7⟩ := at_st (n := n) h hj8 h0
    have zp : zin? (nI p) 200 = true := (zinN (by omega)).mpr a2
    have np := nxN (show p < 2 ^ 31 by omega)
    have wq : wP x v j s ↔ (s.1 (x + 20) p = 161 ∧ s.1 (x + 21) p = nI v) := by
      unfold wP
      rw [a4, np]
      exact ⟨fun w => w.2, fun w => ⟨q, w⟩⟩
    have hst' := hst q
    have e113 : f113 n (1036 + 3 * j) (1036 + 3 * i) s = (if nI pi < nI pj then some (0, s) else some (1, s)) := by
      unfold f113 f113_33
      rw [l2, l5]
      by_cases c1 : pj < pi
      · rw [if_pos ((nltN (by omega) (by omega)).mpr c1), if_neg (fun e => by have := (nltN (by omega) (by omega)).mp e; omega)]
      · rw [if_neg (fun e => c1 ((nltN (by omega) (by omega)).mp e))]
        by_cases c2 : pj = pi
        · rw [if_pos (by rw [c2]), if_pos hst', c2, if_neg Int32.lt_irrefl]
        · rw [if_neg (fun e => c2 ((neqN (by omega) (by omega)).mp e)), if_pos ((nltN (by omega) (by omega)).mpr (by omega))]
    rw [(w1 q).2, gy1, if_neg (by decide), e113, l3, l6, wq]
    by_cases c : nI pi < nI pj
    · rw [if_pos c, gy1, if_pos rfl, e80]
      exact ⟨fun w => absurd c w.2, fun _ => rfl⟩
    · rw [if_neg c, gy1, if_neg (by decide), r9, grd k6, grd k6, a4, if_pos zp, np, if_pos zp, e80]
      have e20 : s.1 (x + 19 + 1) p = s.1 (x + 20) p := rfl
      have e21 : s.1 (x + 19 + 2) p = s.1 (x + 21) p := rfl
      rw [e20, e21]
      constructor
      · intro w
        rw [if_pos w.1.1, if_pos w.1.2]
      · intro w
        by_cases c1 : s.1 (x + 20) p = 161
        · rw [if_pos c1, if_neg (fun e => w ⟨⟨c1, e⟩, c⟩)]
        · rw [if_neg c1]
  · rw [(w0 q).2, gy1, if_pos rfl, e80]
    exact ⟨fun w => absurd w.1.1 q, fun _ => rfl⟩
theorem m_209 (h : RUN G F W B C x y s t) : f209 n t = some (nI (G 6 8), t) := by
  obtain ⟨⟨hxx, hyy, -, -, -, r11, -⟩, ⟨hN, -⟩, -⟩ := id h
  unfold f209
  rw [r11, grd (gck12 hyy), if_pos (by decide), show nx (8 : Int32) = 8 by decide, (hN.1 8 (by decide)).2.1]
/-- the reference's search, when somebody was found -/
theorem m_131z (h : RUN G F W B C x y s t) : ∀ m j k, j + m = G 6 8 → m < k → f258_131 n k (nI i) (nI v) 0 (nI j) t = f257 n (nI i) t := by
  have h88 := (h.2.1.1.1 8 (by decide)).2.2
  intro m
  induction m with
  | zero =>
    intro j k hj hk
    obtain ⟨k, rfl⟩ : ∃ k0, k = k0 + 1 := ⟨k - 1, by omega⟩
    rw [f258_131, m_209 h, gy1, show j = G 6 8 by omega, if_neg Int32.lt_irrefl, if_pos rfl, gyS]
  | succ m ih =>
    intro j k hj hk
    obtain ⟨k, rfl⟩ : ∃ k0, k = k0 + 1 := ⟨k - 1, by omega⟩
    rw [f258_131, m_209 h, gy1, if_pos ((nltN (by omega) (by omega)).mpr (by omega)), if_pos rfl]
    unfold f258_177 f258_178
    rw [naddL]
    exact ih (j + 1) k (by omega) (by omega)
/-- both searches -/
theorem enter_L (h : RUN G F W B C x y s t) (hv : v < 4) (hi : i < 8) (hi0 : ¬ s.1 (1036 + 3 * i) 3 = 0) (hst : ∀ j, j < 8 → (s.1 (1036 + 3 * j) 3 = 3 ∨ s.1 (1036 + 3 * j) 3 = 4) → s.1 (1036 + 3 * j) 12 < s.1 (1036 + 3 * i) 12) : ∀ m j k k', j + m = G 6 8 → m < k → m < k' → (f111_2 n k (nI v) (1036 + 3 * i) (nI j) s = some (1, s) ∧ f258_131 n k' (nI i) (nI v) 1 (nI j) t = f257 n (nI i) t) ∨ (f111_2 n k (nI v) (1036 + 3 * i) (nI j) s = some (0, s) ∧ f258_131 n k' (nI i) (nI v) 1 (nI j) t = f237 n (nI i) (sI t 1213 (8 * v + i) (t.1 1213 (8 * v + i) + 1))) := by
  have h88 := (h.2.1.1.1 8 (by decide)).2.2
  have z32 : zin? (nI (8 * v + i)) 32 = true := (zinN (by omega)).mpr (by omega)
  have zi : zin? (nI i) 8 = true := (zinN (by omega)).mpr hi
  have ni := nxN (show i < 2 ^ 31 by omega)
  intro m
  induction m with
  | zero =>
    intro j k k' hj hk hk'
    obtain ⟨k, rfl⟩ : ∃ k0, k = k0 + 1 := ⟨k - 1, by omega⟩
    obtain ⟨k', rfl⟩ : ∃ k0, k' = k0 + 1 := ⟨k' - 1, by omega⟩
    have a12 : s.1 1007 12 = nI (G 6 8) := h.2.2.1.1.2.2.2.2.2.2.2.1
    refine Or.inr ⟨?_, ?_⟩
    · rw [f111_2, a12, show j = G 6 8 by omega, if_neg Int32.lt_irrefl]
    · rw [f258_131, m_209 h, gy1, show j = G 6 8 by omega, if_neg Int32.lt_irrefl, if_neg (by decide), nLmul, naddN, if_pos z32, if_pos z32, zlet, nxN (show 8 * v + i < 2 ^ 31 by omega)]
      unfold f258_251
      rw [gyS]
  | succ m ih =>
    intro j k k' hj hk hk'
    obtain ⟨k, rfl⟩ : ∃ k0, k = k0 + 1 := ⟨k - 1, by omega⟩
    obtain ⟨k', rfl⟩ : ∃ k0, k' = k0 + 1 := ⟨k' - 1, by omega⟩
    have hj8 : j < 8 := by omega
    have zj : zin? (nI j) 8 = true := (zinN (by omega)).mpr hj8
    have nj := nxN (show j < 2 ^ 31 by omega)
    obtain ⟨c1, c0⟩ := c_111 (n := n) (v := v) (k := k) h hi (show j < G 6 8 by omega) hi0 (hst j hj8)
    obtain ⟨m1, m0⟩ := m_234 (n := n) h hj8 hv
    have eM : f258_131 n (k' + 1) (nI i) (nI v) 1 (nI j) t = yb1 (f234 n (nI j) 12 (nI v) t) fun v6 u5 => if v6 = (0 : Int32) then f258_173 n (f258_131 n k') (nI i) (nI v) (nI j) u5 else if zin? (nI j) 8 = true then if zin? (nI i) 8 = true then if (u5.1 1226 (nx (nI i))) < (u5.1 1226 (nx (nI j))) then f258_173 n (f258_131 n k') (nI i) (nI v) (nI j) u5 else f258_177 n (f258_131 n k') (nI i) (nI v) (nI j) u5 else none else none := by
      rw [f258_131, m_209 h, gy1, if_pos ((nltN (by omega) (by omega)).mpr (by omega)), if_neg (by decide)]
    have e173 : f258_173 n (f258_131 n k') (nI i) (nI v) (nI j) t = f258_131 n k' (nI i) (nI v) 1 (nI (j + 1)) t := by
      unfold f258_173 f258_178
      rw [naddL]
    have e177 : f258_177 n (f258_131 n k') (nI i) (nI v) (nI j) t = f257 n (nI i) t := by
      unfold f258_177 f258_178
      rw [naddL]
      exact m_131z h m (j + 1) k' (by omega) (by omega)
    have nxt := ih (j + 1) k k' (by omega) (by omega) (by omega)
    by_cases q : wP x v j s
    · rw [m1 q, gy1, if_neg (by decide), if_pos zj, if_pos zi, ni, nj] at eM
      by_cases c : t.1 1226 i < t.1 1226 j
      · rw [if_pos c, e173] at eM
        rw [c0 (fun w => w.2 c), eM]
        exact nxt
      · rw [if_neg c, e177] at eM
        exact Or.inl ⟨c1 ⟨q, c⟩, eM⟩
    · rw [m0 q, gy1, if_pos rfl, e173] at eM
      rw [c0 (fun w => q w.1), eM]
      exact nxt
end ZBD
