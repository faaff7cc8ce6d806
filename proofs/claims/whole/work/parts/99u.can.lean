/-! whether one that waits can have what it waits for -/
section ZCB
variable {G W : Nat → Nat → Nat} {F : Nat → Nat → Nat → Nat} {B C x y n i j v : Nat} {s t : zσ}
/-- the statement of task j -/
def zsq (j : Nat) (s : zσ) : Nat := nx (s.1 (1036 + 3 * j + 1) (nx (s.1 (1036 + 3 * j) 10)))
def canP (n x j : Nat) (s : zσ) : Prop :=
  (s.1 (x + 20) (zsq j s) = 159 ∧ f108 n (s.1 (x + 21) (zsq j s)) s = some (1, s)) ∨
  (s.1 (x + 20) (zsq j s) = 161 ∧ s.1 1016 (nx (s.1 (x + 21) (zsq j s))) = -1 ∧ bsum (nx (s.1 (x + 21) (zsq j s))) s = 0) ∨
  (s.1 (x + 20) (zsq j s) = 165 ∧ 0 < s.1 1019 (nx (s.1 (x + 21) (zsq j s)))) ∨
  (s.1 (x + 20) (zsq j s) = 163 ∧ s.1 1016 (nx (s.1 (x + 21) (zsq j s))) = -1 ∧ ∀ w, w < 8 → ¬ (wP x (nx (s.1 (x + 21) (zsq j s))) w s ∧ zQ w j s))
/-- the statement at which a task waits -/
theorem at_w (h : RUN G F W B C x y s t) (hj : j < 8) (w : wT j s) : ∃ q d, q < G 0 0 ∧ q < 200 ∧ zin? (s.1 (1036 + 3 * j) 10) 9 = true ∧ s.1 (1036 + 3 * j + 1) (nx (s.1 (1036 + 3 * j) 10)) = nI q ∧ f214 n (nI j) t = some (nI d, t) ∧ d < 1120 ∧ t.1 1237 d = nI q ∧ zsq j s = q ∧ zwK G q := by
  obtain ⟨-, -, hF⟩ := h.2.2.2.2.1 j hj (by omega)
  have n2 := h.2.1.1.2.2.1.2.2.1
  have h0 : ¬ s.1 (1036 + 3 * j) 3 = 0 := by
    rcases w with q | q <;> rw [q] <;> decide
  have hD : 0 < F j 3 0 := Nat.pos_of_ne_zero (fun q => h0 (hF.2.2.1.mpr q))
  have l108 := hF.2.1
  obtain ⟨w1, w2, w3, w4, w5, w6, w7, -⟩ := r_top (n := n) hF hj hD
  have e1 : s.1 (1036 + 3 * j + 1) (nx (s.1 (1036 + 3 * j) 10)) = nI (F j 1 (F j 3 0 - 1)) := by
    rw [w3, nxN (by omega)]; exact w4
  refine ⟨F j 1 (F j 3 0 - 1), 140 * j + (F j 3 0 - 1), w1, by omega, ?_, e1, w5, by omega, w7, ?_, (hF.2.2.2.2.1 hD).2.2.2 w⟩
  · rw [w3]; exact (zinN (by omega)).mpr (by omega)
  · unfold zsq
    rw [e1, nxN (by omega)]
theorem can_ok (hn : 1000 ≤ n) (h : RUN G F W B C x y s t) (hj : j < 8) (w : wT j s) : (canP n x j s ∧ f107 n (1036 + 3 * j) (nI (zsq j s)) s = some (1, s) ∧ f230 n (nI j) t = some (1, t)) ∨ (¬ canP n x j s ∧ f107 n (1036 + 3 * j) (nI (zsq j s)) s = some (0, s) ∧ f230 n (nI j) t = some (0, t)) := by
  obtain ⟨q, d, a1, a2, a3, a4, a5, a6, a7, a8, a9⟩ := at_w (n := n) h hj w
  have h88 := (h.2.1.1.1 8 (by decide)).2.2
  obtain ⟨⟨hxx, hyy, -, r9, -, r11, -⟩, ⟨hN, -, -, hS⟩, ⟨d1, d2, d3, d4, d5, d6, d7, -⟩, -⟩ := id h
  obtain ⟨k9, k6, k0⟩ := gck9 hxx
  have k12 := gck12 hyy
  have zq : zin? (nI q) 200 = true := (zinN (by omega)).mpr a2
  have zd : zin? (nI d) 1120 = true := (zinN (by omega)).mpr a6
  have nq := nxN (show q < 2 ^ 31 by omega)
  obtain ⟨⟨-, -, s20, s15⟩, -, hO⟩ := hS q a1
  have hm := hN.2.1
  have e20 : s.1 (x + 19 + 1) q = s.1 (x + 20) q := rfl
  have e21 : s.1 (x + 19 + 2) q = s.1 (x + 21) q := rfl
  have eM0 : f230 n (nI j) t = (if t.1 (y + 17) q = -1 then f230_45 n (nI j) (nI q) (-1) t else if zin? (t.1 (y + 17) q) 1400 = true then f230_45 n (nI j) (nI q) (t.1 (y + 33) (nx (t.1 (y + 17) q))) t else none) := by
    unfold f230
    rw [a5, gy1, if_pos zd, zlet, nxN (show d < 2 ^ 31 by omega), a7, r11, grd k12, if_pos zq, nq, grd k12, grd k12, if_pos zq]
  unfold canP
  rw [a8]
  rcases a9 with k | k | k | k
  · -- ask
    obtain ⟨⟨l, hl1, hl2, e21l, e20m, hlu, e17⟩, -⟩ := tO_10 k hO
    have s20' : s.1 (x + 20) q = 159 := by rw [s20, k]; rfl
    have s15' : t.1 (y + 15) q = 10 := by rw [s15, k]; rfl
    have eC : f107 n (1036 + 3 * j) (nI q) s = yb1 (f108 n (s.1 (x + 21) q) s) fun v5 u4 => if v5 = 0 ∨ v5 = 1 then some (v5, u4) else none := by
      unfold f107
      rw [r9, grd k6, if_pos zq, zlet, grd k6, if_pos zq, nq, e20, e21, if_pos s20']
    have eM : f230 n (nI j) t = yb1 (f231 n (nI q) t) fun v3 u2 => if v3 = 0 ∨ v3 = 1 then some (v3, u2) else none := by
      rw [eM0, if_pos e17]
      unfold f230_45
      rw [r11, grd k12, if_pos zq, nq, if_pos s15']
    have lv4 : ∀ v, v ∈ l → v < 4 := fun v hv => by have := hl2 v hv; omega
    have lv8 : ∀ v, v ∈ l → v < 8 := fun v hv => by have := lv4 v hv; omega
    have cC : ∀ k (s : zσ), k < 4 → f109 n (nI (zpk l)) (nI k) s = some (nI (zcn l k), s) := fun k s hk => c_109 (by omega) hl1 lv4 hk
    have cM : ∀ k, k < 4 → f232 n (nI q) (nI k) t = some (nI (zcn l k), t) := fun k hk => m_232 (by omega) hyy r11 a2 hl1 lv8 hk e20m hlu
    have hc : ¬ (s.1 (x + 20) q = 161 ∨ s.1 (x + 20) q = 165 ∨ s.1 (x + 20) q = 163) := by rw [s20']; decide
    rcases ask_1 (n := n) (s := s) (c := zcn l) (fun k _ => by have := zcn_le l k; omega) cC cM (fun k hk4 => by
      obtain ⟨v, u, g1, g2, g3, g4, g5⟩ := d5 k hk4
      refine ⟨v, u, g1, g2, g3, g4, fun q => g5 ?_⟩
      rcases Nat.lt_or_ge k (G 6 2) with w | w
      · exact w
      · exact absurd (zcn_0 l k (fun v hv => by have := hl2 v hv; omega)) q) 4 0 n n (by decide) (by omega) (by omega) with ⟨f1, f2⟩ | ⟨f1, f2, f3⟩
    · have f1' : f108 n (s.1 (x + 21) q) s = some (0, s) := by rw [e21l]; exact f1
      have f2' : f231 n (nI q) t = some (0, t) := f2
      refine Or.inr ⟨?_, ?_, ?_⟩
      · rintro (⟨-, q2⟩ | ⟨q2, -⟩ | ⟨q2, -⟩ | ⟨q2, -⟩)
        · rw [f1'] at q2
          exact absurd (Prod.mk.inj (Option.some.inj q2)).1 (by decide)
        · exact hc (Or.inl q2)
        · exact hc (Or.inr (Or.inl q2))
        · exact hc (Or.inr (Or.inr q2))
      · rw [eC, f1', gy1, if_pos (Or.inl rfl)]
      · rw [eM, f2', gy1, if_pos (Or.inl rfl)]
    · have f1' : f108 n (s.1 (x + 21) q) s = some (1, s) := by rw [e21l]; exact f1
      have f2' : f231 n (nI q) t = some (1, t) := f2
      refine Or.inl ⟨Or.inl ⟨s20', f1'⟩, ?_, ?_⟩
      · rw [eC, f1', gy1, if_pos (Or.inr rfl)]
      · rw [eM, f2', gy1, if_pos (Or.inr rfl)]
  · -- reserve
    obtain ⟨⟨u, v, hu, hv, e17, e33, e21v⟩, -⟩ := tO_12 k hO
    have s20' : s.1 (x + 20) q = 161 := by rw [s20, k]; rfl
    have s15' : t.1 (y + 15) q = 12 := by rw [s15, k]; rfl
    have z14 : zin? (nI u) 1400 = true := (zinN (by omega)).mpr hu
    have hv4 : v < 4 := by omega
    have z4 : zin? (nI v) 4 = true := (zinN (by omega)).mpr hv4
    have nv := nxN (show v < 2 ^ 31 by omega)
    obtain ⟨l1, -⟩ := d6.1 v hv4
    have eC : f107 n (1036 + 3 * j) (nI q) s = (if s.1 1016 v = -1 then (if bsum v s = 0 then some ((1 : Int32), s) else some ((0 : Int32), s)) else some ((0 : Int32), s)) := by
      unfold f107
      rw [r9, grd k6, if_pos zq, zlet, grd k6, if_pos zq, nq, e20, e21, if_neg (by rw [s20']; decide), if_pos s20', e21v, if_pos z4, nv, c_ent (by omega) hv4, gy1]
    have eM : f230 n (nI j) t = (if s.1 1016 v = -1 then (if bsum v s = 0 then some ((1 : Int32), t) else some ((0 : Int32), t)) else some ((0 : Int32), t)) := by
      rw [eM0, if_neg (by rw [e17]; exact fun e => (neqM (show u < 2 ^ 31 by omega)).mp e), e17, if_pos z14, nxN (show u < 2 ^ 31 by omega), e33]
      unfold f230_45
      rw [r11, grd k12, if_pos zq, nq, if_neg (by rw [s15']; decide), if_pos s15', if_pos z4, nv, ← l1, m_ent (by omega) hv4 d6, gy1]
    have hc : ¬ (s.1 (x + 20) q = 159 ∨ s.1 (x + 20) q = 165 ∨ s.1 (x + 20) q = 163) := by rw [s20']; decide
    rw [eC, eM, e21v, nv]
    by_cases q1 : s.1 1016 v = -1
    · rw [if_pos q1, if_pos q1]
      by_cases q2 : bsum v s = 0
      · rw [if_pos q2, if_pos q2]
        exact Or.inl ⟨Or.inr (Or.inl ⟨s20', q1, q2⟩), rfl, rfl⟩
      · rw [if_neg q2, if_neg q2]
        refine Or.inr ⟨?_, rfl, rfl⟩
        rintro (⟨q3, -⟩ | ⟨-, -, q3⟩ | ⟨q3, -⟩ | ⟨q3, -⟩)
        · exact hc (Or.inl q3)
        · exact q2 q3
        · exact hc (Or.inr (Or.inl q3))
        · exact hc (Or.inr (Or.inr q3))
    · rw [if_neg q1, if_neg q1]
      refine Or.inr ⟨?_, rfl, rfl⟩
      rintro (⟨q3, -⟩ | ⟨-, q3, -⟩ | ⟨q3, -⟩ | ⟨q3, -⟩)
      · exact hc (Or.inl q3)
      · exact q1 q3
      · exact hc (Or.inr (Or.inl q3))
      · exact hc (Or.inr (Or.inr q3))
  · -- enter
    obtain ⟨⟨u, v, hu, hv, e17, e33, e21v⟩, -⟩ := tO_14 k hO
    have s20' : s.1 (x + 20) q = 163 := by rw [s20, k]; rfl
    have s15' : t.1 (y + 15) q = 14 := by rw [s15, k]; rfl
    have z14 : zin? (nI u) 1400 = true := (zinN (by omega)).mpr hu
    have hv4 : v < 4 := by omega
    have z4 : zin? (nI v) 4 = true := (zinN (by omega)).mpr hv4
    have nv := nxN (show v < 2 ^ 31 by omega)
    obtain ⟨l1, -⟩ := d6.1 v hv4
    have eC : f107 n (1036 + 3 * j) (nI q) s = (if s.1 1016 v = -1 then (yb1 (f111 n (nI v) (1036 + 3 * j) s) fun v9 u8 => if v9 = (0 : Int32) then some ((1 : Int32), u8) else some ((0 : Int32), u8)) else some ((0 : Int32), s)) := by
      unfold f107
      rw [r9, grd k6, if_pos zq, zlet, grd k6, if_pos zq, nq, e20, e21, if_neg (by rw [s20']; decide), if_neg (by rw [s20']; decide), if_neg (by rw [s20']; decide), e21v, if_pos z4, nv]
    have eM : f230 n (nI j) t = (if s.1 1016 v = -1 then f230_148 n (nI j) (nI v) (1 : Int32) t else f230_148 n (nI j) (nI v) (0 : Int32) t) := by
      rw [eM0, if_neg (by rw [e17]; exact fun e => (neqM (show u < 2 ^ 31 by omega)).mp e), e17, if_pos z14, nxN (show u < 2 ^ 31 by omega), e33]
      unfold f230_45
      rw [r11, grd k12, if_pos zq, nq, if_neg (by rw [s15']; decide), if_neg (by rw [s15']; decide), if_neg (by rw [s15']; decide), if_pos z4, nv, ← l1]
    have hc : ¬ (s.1 (x + 20) q = 159 ∨ s.1 (x + 20) q = 161 ∨ s.1 (x + 20) q = 165) := by rw [s20']; decide
    rw [eC, eM, e21v, nv]
    by_cases q1 : s.1 1016 v = -1
    · rw [if_pos q1, if_pos q1]
      rcases ent_S (n := n) h hv4 hj w (G 6 8) 0 n n (by omega) (by omega) (by omega) with ⟨⟨w', -, b2, b3⟩, b4, b5⟩ | ⟨b1, b4, b5⟩
      · have b4' : f111 n (nI v) (1036 + 3 * j) s = some (1, s) := b4
        have b5' : f230_148 n (nI j) (nI v) (1 : Int32) t = some (0, t) := b5
        rw [b4', b5', gy1, if_neg (by decide)]
        refine Or.inr ⟨?_, rfl, rfl⟩
        rintro (⟨q3, -⟩ | ⟨q3, -⟩ | ⟨q3, -⟩ | ⟨-, -, q3⟩)
        · exact hc (Or.inl q3)
        · exact hc (Or.inr (Or.inl q3))
        · exact hc (Or.inr (Or.inr q3))
        · exact q3 w' (by omega) b3
      · have b4' : f111 n (nI v) (1036 + 3 * j) s = some (0, s) := b4
        have b5' : f230_148 n (nI j) (nI v) (1 : Int32) t = some (1, t) := b5
        rw [b4', b5', gy1, if_pos rfl]
        refine Or.inl ⟨Or.inr (Or.inr (Or.inr ⟨s20', q1, fun w' hw' e => ?_⟩)), rfl, rfl⟩
        obtain ⟨-, -, -, -, -, -, -, -, c8⟩ := w_of h hw' e.1.1
        exact b1 w' (by omega) c8 e
    · rw [if_neg q1, if_neg q1]
      have b5' : f230_148 n (nI j) (nI v) (0 : Int32) t = some (0, t) := m_153z h (G 6 8) 0 n (by omega) (by omega)
      rw [b5']
      refine Or.inr ⟨?_, rfl, rfl⟩
      rintro (⟨q3, -⟩ | ⟨q3, -⟩ | ⟨q3, -⟩ | ⟨-, q3, -⟩)
      · exact hc (Or.inl q3)
      · exact hc (Or.inr (Or.inl q3))
      · exact hc (Or.inr (Or.inr q3))
      · exact q1 q3
  · -- take
    obtain ⟨⟨u, v, hu, hv, e17, e33, e21v⟩, -⟩ := tO_23 k hO
    have s20' : s.1 (x + 20) q = 165 := by rw [s20, k]; rfl
    have s15' : t.1 (y + 15) q = 23 := by rw [s15, k]; rfl
    have z14 : zin? (nI u) 1400 = true := (zinN (by omega)).mpr hu
    have hv4 : v < 4 := by omega
    have z4 : zin? (nI v) 4 = true := (zinN (by omega)).mpr hv4
    have nv := nxN (show v < 2 ^ 31 by omega)
    obtain ⟨Z, i0, i1, i2, -⟩ := d7 v hv4
    have eC : f107 n (1036 + 3 * j) (nI q) s = (if 0 < s.1 1019 v then some ((1 : Int32), s) else some ((0 : Int32), s)) := by
      unfold f107
      rw [r9, grd k6, if_pos zq, zlet, grd k6, if_pos zq, nq, e20, e21, if_neg (by rw [s20']; decide), if_neg (by rw [s20']; decide), if_pos s20', e21v, if_pos z4, nv]
    have eM : f230 n (nI j) t = (if 0 < s.1 1019 v then some ((1 : Int32), t) else some ((0 : Int32), t)) := by
      rw [eM0, if_neg (by rw [e17]; exact fun e => (neqM (show u < 2 ^ 31 by omega)).mp e), e17, if_pos z14, nxN (show u < 2 ^ 31 by omega), e33]
      unfold f230_45
      rw [r11, grd k12, if_pos zq, nq, if_neg (by rw [s15']; decide), if_neg (by rw [s15']; decide), if_pos s15', if_pos z4, nv, i2, i1]
    have hc : ¬ (s.1 (x + 20) q = 159 ∨ s.1 (x + 20) q = 161 ∨ s.1 (x + 20) q = 163) := by rw [s20']; decide
    rw [eC, eM, e21v, nv]
    by_cases q1 : 0 < s.1 1019 v
    · rw [if_pos q1, if_pos q1]
      exact Or.inl ⟨Or.inr (Or.inr (Or.inl ⟨s20', q1⟩)), rfl, rfl⟩
    · rw [if_neg q1, if_neg q1]
      refine Or.inr ⟨?_, rfl, rfl⟩
      rintro (⟨q3, -⟩ | ⟨q3, -⟩ | ⟨-, q3⟩ | ⟨q3, -⟩)
      · exact hc (Or.inl q3)
      · exact hc (Or.inr (Or.inl q3))
      · exact q1 q3
      · exact hc (Or.inr (Or.inr q3))
end ZCB
