/-! rings: who waits for whom -/
section ZDA
variable {G W W2 : Nat → Nat → Nat} {F F2 : Nat → Nat → Nat → Nat} {B C B2 C2 x y n i j o k v p D r N P g z q : Nat} {s t s2 t2 s' t' : zσ} {a b : Nat → Nat} {M : Nat → Int32}
theorem i_or0 (a : Int32) : a ||| 0 = a := by
  apply Int32.toBitVec_inj.mp
  rw [Int32.toBitVec_or]
  simp
theorem i_oro (a : Int32) : a ||| a = a := by
  apply Int32.toBitVec_inj.mp
  rw [Int32.toBitVec_or]
  simp
theorem c_92L (h : RUN G F W B C x y s t) (hq : q < 200) (hv : v < 4) (e20 : s.1 (x + 20) q = 161) (e15 : t.1 (y + 15) q = 12) : ∀ m i fu fu2 (Z : Int32), i + m = G 6 8 → m < fu → m < fu2 → ∃ Z2, f153_92 n fu (nI q) (nI v) Z (nI i) s = some (Z2, s) ∧ f282_103 n fu2 (nI q) (nI v) Z (nI i) t = some (Z2, t) := by
  have h88 := (h.2.1.1.1 8 (by decide)).2.2
  have a12 : s.1 1007 12 = nI (G 6 8) := h.2.2.1.1.2.2.2.2.2.2.2.1
  obtain ⟨⟨hxx, hyy, -, r9, -, r11, -⟩, -, ⟨-, -, -, -, -, d6, -⟩, -⟩ := id h
  obtain ⟨k9, k6, k0⟩ := gck9 hxx
  have zq : zin? (nI q) 200 = true := (zinN (by omega)).mpr hq
  have nq := nxN (show q < 2 ^ 31 by omega)
  intro m
  induction m with
  | zero =>
    intro i fu fu2 Z hi hf hf2
    obtain ⟨fu, rfl⟩ : ∃ f0, fu = f0 + 1 := ⟨fu - 1, by omega⟩
    obtain ⟨fu2, rfl⟩ : ∃ f0, fu2 = f0 + 1 := ⟨fu2 - 1, by omega⟩
    refine ⟨Z, ?_, ?_⟩
    · rw [f153_92, a12, show i = G 6 8 by omega, if_neg Int32.lt_irrefl]
    · rw [f282_103, m_209 h, gy1, show i = G 6 8 by omega, if_neg Int32.lt_irrefl]
  | succ m ih =>
    intro i fu fu2 Z hi hf hf2
    obtain ⟨fu, rfl⟩ : ∃ f0, fu = f0 + 1 := ⟨fu - 1, by omega⟩
    obtain ⟨fu2, rfl⟩ : ∃ f0, fu2 = f0 + 1 := ⟨fu2 - 1, by omega⟩
    have li : nI i < nI (G 6 8) := (nltN (by omega) (by omega)).mpr (by omega)
    have z32 : zin? (nI (8 * v + i)) 32 = true := (zinN (by omega)).mpr (by omega)
    have e20' : s.1 (x + 19 + 1) q = 161 := e20
    have eC : f153_92 n (fu + 1) (nI q) (nI v) Z (nI i) s = (if 0 < s.1 1017 (8 * v + i) then f153_92 n fu (nI q) (nI v) (Z ||| ((1 : Int32) <<< (nI i &&& 31))) (nI (i + 1)) s else f153_92 n fu (nI q) (nI v) Z (nI (i + 1)) s) := by
      rw [f153_92, a12, if_pos li, r9, grd k6, if_pos zq, nq, if_pos e20', nmulL, naddN, if_pos z32, nxN (show 8 * v + i < 2 ^ 31 by omega), zlet]
      unfold f153_143
      rw [naddL]
    have eM : f282_103 n (fu2 + 1) (nI q) (nI v) Z (nI i) t = (if 0 < s.1 1017 (8 * v + i) then f282_103 n fu2 (nI q) (nI v) (Z ||| ((1 : Int32) <<< (nI i &&& 31))) (nI (i + 1)) t else f282_103 n fu2 (nI q) (nI v) Z (nI (i + 1)) t) := by
      rw [f282_103, m_209 h, gy1, if_pos li, r11, grd (gck12 hyy), if_pos zq, nq, if_pos e15, nLmul, naddN, if_pos z32, nxN (show 8 * v + i < 2 ^ 31 by omega), ← d6.2 (8 * v + i) (by omega)]
      unfold f282_151
      rw [zlet, zlet, naddL, i_or0]
    rw [eC, eM]
    by_cases w : 0 < s.1 1017 (8 * v + i)
    · rw [if_pos w, if_pos w]
      exact ih (i + 1) fu fu2 _ (by omega) (by omega) (by omega)
    · rw [if_neg w, if_neg w]
      exact ih (i + 1) fu fu2 _ (by omega) (by omega) (by omega)
/-- of an enter nothing is added -/
theorem c_92E (h : RUN G F W B C x y s t) (hq : q < 200) (e20 : s.1 (x + 20) q = 163) : ∀ m i fu (Z : Int32), i + m = G 6 8 → m < fu → f153_92 n fu (nI q) (nI v) Z (nI i) s = some (Z, s) := by
  have h88 := (h.2.1.1.1 8 (by decide)).2.2
  have a12 : s.1 1007 12 = nI (G 6 8) := h.2.2.1.1.2.2.2.2.2.2.2.1
  obtain ⟨⟨hxx, hyy, -, r9, -, r11, -⟩, -⟩ := id h
  obtain ⟨k9, k6, k0⟩ := gck9 hxx
  have zq : zin? (nI q) 200 = true := (zinN (by omega)).mpr hq
  have nq := nxN (show q < 2 ^ 31 by omega)
  have e20' : ¬ s.1 (x + 19 + 1) q = 161 := by
    have : s.1 (x + 19 + 1) q = 163 := e20
    rw [this]; decide
  intro m
  induction m with
  | zero =>
    intro i fu Z hi hf
    obtain ⟨fu, rfl⟩ : ∃ f0, fu = f0 + 1 := ⟨fu - 1, by omega⟩
    rw [f153_92, a12, show i = G 6 8 by omega, if_neg Int32.lt_irrefl]
  | succ m ih =>
    intro i fu Z hi hf
    obtain ⟨fu, rfl⟩ : ∃ f0, fu = f0 + 1 := ⟨fu - 1, by omega⟩
    rw [f153_92, a12, if_pos ((nltN (by omega) (by omega)).mpr (by omega)), r9, grd k6, if_pos zq, nq, if_neg e20']
    unfold f153_143
    rw [naddL]
    exact ih (i + 1) fu Z (by omega) (by omega)
theorem m_103E (hn : 0 < n) (h : RUN G F W B C x y s t) (hq : q < 200) (e15 : t.1 (y + 15) q = 14) (Z : Int32) : f282_103 n n (nI q) (nI v) Z 0 t = some (Z, t) := by
  obtain ⟨m, rfl⟩ : ∃ m, n = m + 1 := ⟨n - 1, by omega⟩
  obtain ⟨⟨hxx, hyy, -, -, -, r11, -⟩, -⟩ := id h
  have zq : zin? (nI q) 200 = true := (zinN (by omega)).mpr hq
  rw [f282_103, m_209 h, gy1, r11, grd (gck12 hyy), if_pos zq, nxN (show q < 2 ^ 31 by omega), if_neg (show ¬ t.1 (y + 15) q = 12 by rw [e15]; decide)]
  split <;> rfl
/-- whom a task waits for, as both see it -/
theorem edge_ok (hn : 1000 ≤ n) (h : RUN G F W B C x y s t) (hj : j < 8) : ∃ m, f153 n (1036 + 3 * j) s = some (m, s) ∧ f282 n (nI j) t = some (m, t) := by
  have h88 := (h.2.1.1.1 8 (by decide)).2.2
  obtain ⟨m1, m0⟩ := m_228 (n := n) h hj
  have z9 : zin? (s.1 (1036 + 3 * j) 10) 9 = true := by
    by_cases q : s.1 (1036 + 3 * j) 3 = 0
    · obtain ⟨-, -, f1, f2, f3, f4, -⟩ := h.2.2.2.2.1 j hj (by omega)
      rw [(f4 (f3.mp q)).1]
      decide
    · obtain ⟨p, d, a1, a2, a3, -⟩ := at_st (n := n) h hj q
      exact a3
  by_cases w : wT j s
  · obtain ⟨q, d, a1, a2, a3, a4, a5, a6, a7, a8, a9⟩ := at_w (n := n) h hj w
    obtain ⟨⟨hxx, hyy, -, r9, -, r11, -⟩, ⟨hN, -, -, hS⟩, ⟨-, -, -, -, -, d6, -⟩, -⟩ := id h
    obtain ⟨k9, k6, k0⟩ := gck9 hxx
    have k12 := gck12 hyy
    have zq : zin? (nI q) 200 = true := (zinN (by omega)).mpr a2
    have zd : zin? (nI d) 1120 = true := (zinN (by omega)).mpr a6
    have nq := nxN (show q < 2 ^ 31 by omega)
    have nq1 : ¬ nI q = -1 := fun e => (neqM (show q < 2 ^ 31 by omega)).mp e
    obtain ⟨⟨-, -, s20, s15⟩, -, hO⟩ := hS q a1
    have hm := hN.2.1
    have e20 : s.1 (x + 19 + 1) q = s.1 (x + 20) q := rfl
    have e21 : s.1 (x + 19 + 2) q = s.1 (x + 21) q := rfl
    have eC : f153 n (1036 + 3 * j) s = (if s.1 (x + 20) q = 161 then f153_49 n (nI q) s else if s.1 (x + 20) q = 163 then f153_49 n (nI q) s else some ((0 : Int32), s)) := by
      unfold f153
      rw [if_pos z9, zlet, (m1 w).2, gy1, if_neg (by decide), a4, r9, grd k6, if_pos zq, nq, e20, grd k6, if_pos zq]
    have eM : f282 n (nI j) t = (if t.1 (y + 15) q = 12 then f282_58 n (nI q) t else if t.1 (y + 15) q = 14 then f282_58 n (nI q) t else some ((0 : Int32), t)) := by
      unfold f282
      rw [(m1 w).1, gy1, if_neg (by decide), a5, gy1, if_pos zd, nxN (show d < 2 ^ 31 by omega), a7]
      unfold f282_22
      rw [if_neg nq1, r11, grd k12, if_pos zq, nq, grd k12, if_pos zq]
    have base : ∀ u v, u < 1400 → v < 4 → t.1 (y + 17) q = nI u → t.1 (y + 33) u = nI v → s.1 (x + 21) q = nI v → ∃ Z : Int32, f153_49 n (nI q) s = f153_92 n n (nI q) (nI v) Z (nI 0) s ∧ f282_58 n (nI q) t = f282_103 n n (nI q) (nI v) Z 0 t := by
      intro u v hu hv e17 e33 e21v
      have z4 : zin? (nI v) 4 = true := (zinN (by omega)).mpr hv
      have nv := nxN (show v < 2 ^ 31 by omega)
      obtain ⟨l1, -⟩ := d6.1 v hv
      have c1 : f153_49 n (nI q) s = (if s.1 1016 v = -1 then f153_92 n n (nI q) (nI v) 0 0 s else f153_92 n n (nI q) (nI v) ((1 : Int32) <<< (s.1 1016 v &&& 31)) 0 s) := by
        unfold f153_49 f153_87
        rw [r9, grd k6, if_pos zq, zlet, nq, e21, e21v, if_pos z4, nv, if_pos z4]
      have c2 : f282_58 n (nI q) t = (if s.1 1016 v = -1 then f282_103 n n (nI q) (nI v) 0 0 t else f282_103 n n (nI q) (nI v) ((1 : Int32) <<< (s.1 1016 v &&& 31)) 0 t) := by
        unfold f282_58 f282_98
        rw [r11, grd k12, grd k12, if_pos zq, nq, e17, if_pos ((zinN (by omega)).mpr hu), zlet, nxN (show u < 2 ^ 31 by omega), e33, if_pos z4, nv, ← l1, if_pos z4]
      by_cases w2 : s.1 1016 v = -1
      · rw [if_pos w2] at c1 c2
        exact ⟨0, c1, c2⟩
      · rw [if_neg w2] at c1 c2
        exact ⟨_, c1, c2⟩
    rcases a9 with k | k | k | k
    · refine ⟨0, ?_, ?_⟩
      · rw [eC, s20, k, if_neg (by decide), if_neg (by decide)]
      · rw [eM, s15, k, if_neg (by decide), if_neg (by decide)]
    · obtain ⟨⟨u, v, hu, hv, e17, e33, e21v⟩, -⟩ := tO_12 k hO
      have s20' : s.1 (x + 20) q = 161 := by rw [s20, k]; rfl
      have s15' : t.1 (y + 15) q = 12 := by rw [s15, k]; rfl
      have hv4 : v < 4 := by omega
      obtain ⟨Z, b1, b2⟩ := base u v hu hv4 e17 e33 e21v
      obtain ⟨Z2, c1, c2⟩ := c_92L (n := n) h a2 hv4 s20' s15' (G 6 8) 0 n n Z (Nat.zero_add _) (by omega) (by omega)
      refine ⟨Z2, ?_, ?_⟩
      · rw [eC, if_pos s20', b1, c1]
      · rw [eM, if_pos s15', b2]; exact c2
    · obtain ⟨⟨u, v, hu, hv, e17, e33, e21v⟩, -⟩ := tO_14 k hO
      have s20' : s.1 (x + 20) q = 163 := by rw [s20, k]; rfl
      have s15' : t.1 (y + 15) q = 14 := by rw [s15, k]; rfl
      have hv4 : v < 4 := by omega
      obtain ⟨Z, b1, b2⟩ := base u v hu hv4 e17 e33 e21v
      refine ⟨Z, ?_, ?_⟩
      · rw [eC, if_neg (by rw [s20']; decide), if_pos s20', b1, c_92E h a2 s20' (G 6 8) 0 n Z (Nat.zero_add _) (by omega)]
      · rw [eM, if_neg (by rw [s15']; decide), if_pos s15', b2, m_103E (by omega) h a2 s15']
    · refine ⟨0, ?_, ?_⟩
      · rw [eC, s20, k, if_neg (by decide), if_neg (by decide)]
      · rw [eM, s15, k, if_neg (by decide), if_neg (by decide)]
  · refine ⟨0, ?_, ?_⟩
    · unfold f153
      rw [if_pos z9, zlet, (m0 w).2, gy1, if_pos rfl]
    · unfold f282 f282_22
      rw [(m0 w).1, gy1, if_pos rfl, if_pos rfl]
/-- Warshall's step -/
def wst (R : Nat → Int32) (k i : Nat) : Int32 := if ((R i >>> (nI k &&& 31)) &&& (1 : Int32)) = 1 then R i ||| R k else R i
/-- a set that holds with each task those that it waits for -/
def cls (M : Nat → Int32) (N : Nat) (X : Int32) : Prop := ∀ i, i < N → bt X i → ∀ j, j < N → bt (M i) j → bt X j
def Wk (M : Nat → Int32) (N k : Nat) (R : Nat → Int32) : Prop := (∀ i j, i < N → j < 8 → bt (M i) j → bt (R i) j) ∧ (∀ k' i j, k' < k → i < N → j < 8 → bt (R i) k' → bt (R k') j → bt (R i) j) ∧ (∀ X a, a < N → cls M N X → (∀ j, j < N → bt (M a) j → bt X j) → ∀ i j, i < N → j < N → bt (R i) j → (i = a ∨ bt X i) → bt X j)
theorem wst_bt {R : Nat → Int32} {k i j : Nat} (hj : j < 8) : bt (wst R k i) j ↔ bt (R i) j ∨ (bt (R i) k ∧ bt (R k) j) := by
  unfold wst
  by_cases w : ((R i >>> (nI k &&& 31)) &&& (1 : Int32)) = 1
  · rw [if_pos w, bt_or hj]
    have w' : bt (R i) k := w
    exact ⟨fun u => u.elim Or.inl (fun u => Or.inr ⟨w', u⟩), fun u => u.elim Or.inl (fun u => Or.inr u.2)⟩
  · rw [if_neg w]
    have w' : ¬ bt (R i) k := w
    exact ⟨Or.inl, fun u => u.elim id (fun u => absurd u.1 w')⟩
theorem Wk_0 (hN : N ≤ 8) : Wk M N 0 M := by
  refine ⟨fun i j _ _ h => h, fun k' i j h => by omega, fun X a ha hX hM i j hi hj h1 h2 => ?_⟩
  rcases h2 with h2 | h2
  · rw [h2] at h1; exact hM j hj h1
  · exact hX i hi h2 j hj h1
theorem Wk_s {R R2 : Nat → Int32} (hN : N ≤ 8) (hk : k < N) (h : Wk M N k R) (h2 : ∀ i, i < N → R2 i = wst R k i) : Wk M N (k + 1) R2 := by
  obtain ⟨a1, a2, a3⟩ := h
  refine ⟨fun i j hi hj w => ?_, fun k' i j hk' hi hj w1 w2 => ?_, fun X a ha hX hM i j hi hj w1 w2 => ?_⟩
  · rw [h2 i hi, wst_bt hj]
    exact Or.inl (a1 i j hi hj w)
  · rw [h2 i hi, wst_bt (by omega)] at w1
    rw [h2 k' (by omega), wst_bt hj] at w2
    rw [h2 i hi, wst_bt hj]
    by_cases e : k' = k
    · subst e
      have u1 : bt (R i) k' := w1.elim id (fun u => u.1)
      have u2 : bt (R k') j := w2.elim id (fun u => u.2)
      exact Or.inr ⟨u1, u2⟩
    · have l : k' < k := by omega
      rcases w1 with w1 | ⟨w1, w1'⟩
      · rcases w2 with w2 | ⟨w2, w2'⟩
        · exact Or.inl (a2 k' i j l hi hj w1 w2)
        · exact Or.inr ⟨a2 k' i k l hi (by omega) w1 w2, w2'⟩
      · rcases w2 with w2 | ⟨w2, w2'⟩
        · exact Or.inr ⟨w1, a2 k' k j l hk hj w1' w2⟩
        · exact Or.inr ⟨w1, w2'⟩
  · rw [h2 i hi, wst_bt (by omega)] at w1
    rcases w1 with w1 | ⟨w1, w1'⟩
    · exact a3 X a ha hX hM i j hi hj w1 w2
    · have := a3 X a ha hX hM i k hi hk w1 w2
      exact a3 X a ha hX hM k j hk hj w1' (Or.inr this)
end ZDA
