/-! the act make -/
section ZAY
variable {G W W2 : Nat → Nat → Nat} {F F2 : Nat → Nat → Nat → Nat} {B C B2 C2 x y n i D r o v u : Nat} {s t s2 t2 : zσ}
theorem hFo {a lo hi b : Nat} {v : Int32} (h : b ≠ a) : (sF s a lo hi v).1 b = s.1 b := funext fun j => by rw [gF, if_neg (fun q => h q.1)]
/-- some row lies at X -/
def uR (f : Nat → Int32) (X : Int32) : Prop := ∃ k, k < 4 ∧ f k = X
theorem uR_4 {f : Nat → Int32} {X : Int32} (h : uR f X) : f 0 = X ∨ f 1 = X ∨ f 2 = X ∨ f 3 = X := by
  obtain ⟨k, hk, e⟩ := h
  have : k = 0 ∨ k = 1 ∨ k = 2 ∨ k = 3 := by omega
  rcases this with rfl | rfl | rfl | rfl
  · exact Or.inl e
  · exact Or.inr (Or.inl e)
  · exact Or.inr (Or.inr (Or.inl e))
  · exact Or.inr (Or.inr (Or.inr e))
/-- a place is free: the least one -/
theorem free_4 {f : Nat → Int32} (hv : v < 4) (h : f v = -1) : ∃ p, p < 4 ∧ ¬ uR f (nI p) ∧ ∀ q, q < p → uR f (nI q) := by
  by_cases u0 : uR f (nI 0)
  · by_cases u1 : uR f (nI 1)
    · by_cases u2 : uR f (nI 2)
      · refine ⟨3, by decide, fun u3 => ?_, fun q hq => ?_⟩
        · obtain ⟨k0, a0, e0⟩ := u0
          obtain ⟨k1, a1, e1⟩ := u1
          obtain ⟨k2, a2, e2⟩ := u2
          obtain ⟨k3, a3, e3⟩ := u3
          have d01 : k0 ≠ k1 := fun q => by rw [q, e1] at e0; exact absurd e0 (by decide)
          have d02 : k0 ≠ k2 := fun q => by rw [q, e2] at e0; exact absurd e0 (by decide)
          have d03 : k0 ≠ k3 := fun q => by rw [q, e3] at e0; exact absurd e0 (by decide)
          have d12 : k1 ≠ k2 := fun q => by rw [q, e2] at e1; exact absurd e1 (by decide)
          have d13 : k1 ≠ k3 := fun q => by rw [q, e3] at e1; exact absurd e1 (by decide)
          have d23 : k2 ≠ k3 := fun q => by rw [q, e3] at e2; exact absurd e2 (by decide)
          have v0 : v ≠ k0 := fun q => by rw [← q, h] at e0; exact absurd e0 (by decide)
          have v1 : v ≠ k1 := fun q => by rw [← q, h] at e1; exact absurd e1 (by decide)
          have v2 : v ≠ k2 := fun q => by rw [← q, h] at e2; exact absurd e2 (by decide)
          have v3 : v ≠ k3 := fun q => by rw [← q, h] at e3; exact absurd e3 (by decide)
          clear h e0 e1 e2 e3
          omega
        · have : q = 0 ∨ q = 1 ∨ q = 2 := by omega
          rcases this with rfl | rfl | rfl
          · exact u0
          · exact u1
          · exact u2
      · refine ⟨2, by decide, u2, fun q hq => ?_⟩
        have : q = 0 ∨ q = 1 := by omega
        rcases this with rfl | rfl
        · exact u0
        · exact u1
    · refine ⟨1, by decide, u1, fun q hq => ?_⟩
      rw [show q = 0 by omega]
      exact u0
  · exact ⟨0, by decide, u0, fun q hq => by omega⟩
theorem z04 : zin? (0 : Int32) 4 = true ∧ zin? (1 : Int32) 4 = true ∧ zin? (2 : Int32) 4 = true ∧ zin? (3 : Int32) 4 = true := by decide
theorem x04 : nx (0 : Int32) = 0 ∧ nx (1 : Int32) = 1 ∧ nx (2 : Int32) = 2 ∧ nx (3 : Int32) = 3 := by decide
theorem c_101 {X : Int32} : (uR (s.1 1011) X → f101 n X s = some (1, s)) ∧ (¬ uR (s.1 1011) X → f101 n X s = some (0, s)) := by
  have e : f101 n X s = (if s.1 1011 0 = X then some (1, s) else if s.1 1011 1 = X then some (1, s) else if s.1 1011 2 = X then some (1, s) else if s.1 1011 3 = X then some (1, s) else some (0, s)) := by
    unfold f101 f101_40
    rw [if_pos z04.1, x04.1, if_pos z04.2.1, x04.2.1, if_pos z04.2.2.1, x04.2.2.1, if_pos z04.2.2.2, x04.2.2.2]
  rw [e]
  constructor
  · intro h
    have := uR_4 h
    split
    · rfl
    · split
      · rfl
      · split
        · rfl
        · split
          · rfl
          · next q0 q1 q2 q3 =>
            rcases this with w | w | w | w <;> contradiction
  · intro h
    rw [if_neg (fun q => h ⟨0, by decide, q⟩), if_neg (fun q => h ⟨1, by decide, q⟩), if_neg (fun q => h ⟨2, by decide, q⟩), if_neg (fun q => h ⟨3, by decide, q⟩)]
theorem c_44 {p j : Nat} {x1 x2 : Int32} (hp : p < 4) (h0 : ¬ uR (s.1 1011) (nI p)) (h1 : ∀ q, q < p → uR (s.1 1011) (nI q)) : f100_44 n (j + 4) x1 x2 (nI 0) (nI 0) s = f100_67 n x1 x2 (nI p) s := by
  have st : ∀ q j, q < 3 → uR (s.1 1011) (nI q) → f100_44 n (j + 1) x1 x2 (nI q) (nI q) s = f100_44 n j x1 x2 (nI (q + 1)) (nI (q + 1)) s := by
    intro q j hq hu
    rw [f100_44, if_pos (show nI q < 3 from (nltN (b := 3) (by omega) (by decide)).mpr hq), c_101.1 hu, gy1, if_neg (by decide), naddL]
  have fr : ∀ q j, q < 3 → ¬ uR (s.1 1011) (nI q) → f100_44 n (j + 1) x1 x2 (nI q) (nI q) s = f100_67 n x1 x2 (nI q) s := by
    intro q j hq hu
    rw [f100_44, if_pos (show nI q < 3 from (nltN (b := 3) (by omega) (by decide)).mpr hq), c_101.2 hu, gy1, if_pos rfl]
  have l3 : ∀ j, f100_44 n (j + 1) x1 x2 (nI 3) (nI 3) s = f100_67 n x1 x2 (nI 3) s := by
    intro j
    rw [f100_44, if_neg (by decide)]
  have : p = 0 ∨ p = 1 ∨ p = 2 ∨ p = 3 := by omega
  rcases this with rfl | rfl | rfl | rfl
  · exact fr 0 _ (by decide) h0
  · rw [st 0 _ (by decide) (h1 0 (by decide))]
    exact fr 1 _ (by decide) h0
  · rw [st 0 _ (by decide) (h1 0 (by decide)), st 1 _ (by decide) (h1 1 (by decide))]
    exact fr 2 _ (by decide) h0
  · rw [st 0 _ (by decide) (h1 0 (by decide)), st 1 _ (by decide) (h1 1 (by decide)), st 2 _ (by decide) (h1 2 (by decide))]
    exact l3 _
theorem m_112 {p j : Nat} {x1 x4 : Int32} (hv : v < 4) (hp : p < 4) (h0 : ¬ uR (t.1 1208) (nI p)) (h1 : ∀ q, q < p → uR (t.1 1208) (nI q)) : f255_112 n (j + 4) x1 (nI v) x4 (nI 0) t = f255_182 n n x1 (nI p) 0 (sI (sI t 1208 v (nI p)) 1209 p x4) := by
  have zv : zin? (nI v) 4 = true := (zinN (by omega)).mpr hv
  have nv := nxN (show v < 2 ^ 31 by omega)
  have st : ∀ q j, q < 4 → uR (t.1 1208) (nI q) → f255_112 n (j + 1) x1 (nI v) x4 (nI q) t = f255_112 n j x1 (nI v) x4 (nI (q + 1)) t := by
    intro q j hq hu
    have := uR_4 hu
    rw [f255_112, if_pos z04.1, x04.1, if_pos z04.2.1, x04.2.1, if_pos z04.2.2.1, x04.2.2.1, if_pos z04.2.2.2, x04.2.2.2]
    unfold f255_156
    rw [naddL]
    split
    · rfl
    · split
      · rfl
      · split
        · rfl
        · split
          · rfl
          · next q0 q1 q2 q3 =>
            rcases this with w | w | w | w <;> contradiction
  have fr : ∀ q j, q < 4 → ¬ uR (t.1 1208) (nI q) → f255_112 n (j + 1) x1 (nI v) x4 (nI q) t = f255_182 n n x1 (nI q) 0 (sI (sI t 1208 v (nI q)) 1209 q x4) := by
    intro q j hq h
    have z5 : zin? (nI q) 5 = true := (zinN (by omega)).mpr (by omega)
    rw [f255_112, if_pos z04.1, x04.1, if_pos z04.2.1, x04.2.1, if_pos z04.2.2.1, x04.2.2.1, if_pos z04.2.2.2, x04.2.2.2, if_neg (fun q => h ⟨0, by decide, q⟩), if_neg (fun q => h ⟨1, by decide, q⟩), if_neg (fun q => h ⟨2, by decide, q⟩), if_neg (fun q => h ⟨3, by decide, q⟩), if_pos zv, zlet, if_pos z5, zlet, nv, nxN (show q < 2 ^ 31 by omega)]
  have : p = 0 ∨ p = 1 ∨ p = 2 ∨ p = 3 := by omega
  rcases this with rfl | rfl | rfl | rfl
  · exact fr 0 _ (by decide) h0
  · rw [st 0 _ (by decide) (h1 0 (by decide))]
    exact fr 1 _ (by decide) h0
  · rw [st 0 _ (by decide) (h1 0 (by decide)), st 1 _ (by decide) (h1 1 (by decide))]
    exact fr 2 _ (by decide) h0
  · rw [st 0 _ (by decide) (h1 0 (by decide)), st 1 _ (by decide) (h1 1 (by decide)), st 2 _ (by decide) (h1 2 (by decide))]
    exact fr 3 _ (by decide) h0
theorem m_182 {p : Nat} {x1 : Int32} (hp : p < 4) : ∀ m k j (t : zσ), k + m = 20 → m < j → ∃ t2, f255_182 n j x1 (nI p) (nI k) t = f237 n x1 t2 ∧ t2.2 = t.2 ∧ (∀ a, a ≠ 1210 → t2.1 a = t.1 a) ∧ (∀ q, ¬ (20 * p + k ≤ q ∧ q < 20 * p + 20) → t2.1 1210 q = t.1 1210 q) ∧ (∀ q, 20 * p + k ≤ q → q < 20 * p + 20 → t2.1 1210 q = 0) := by
  intro m
  induction m with
  | zero =>
    intro k j t hk hj
    obtain ⟨j, rfl⟩ : ∃ j0, j = j0 + 1 := ⟨j - 1, by omega⟩
    rw [show k = 20 by omega]
    refine ⟨t, ?_, rfl, fun _ _ => rfl, fun _ _ => rfl, fun q h1 h2 => by omega⟩
    rw [f255_182, if_neg (by decide), f255_258, gyS]
  | succ m ih =>
    intro k j t hk hj
    obtain ⟨j, rfl⟩ : ∃ j0, j = j0 + 1 := ⟨j - 1, by omega⟩
    have z1 : zin? (nI (20 * p + k)) 100 = true := (zinN (by omega)).mpr (by omega)
    obtain ⟨t2, e1, e2, e3, e4, e5⟩ := ih (k + 1) j (sI t 1210 (20 * p + k) 0) (by omega) (by omega)
    refine ⟨t2, ?_, e2, fun a ha => by rw [e3 a ha, hIo ha], fun q hq => by rw [e4 q (by omega), hIk (by omega)], fun q h1 h2 => ?_⟩
    · rw [f255_182, if_pos (show nI k < 20 from (nltN (b := 20) (by omega) (by decide)).mpr (by omega)), nLmul, naddN, if_pos z1, zlet, nxN (show 20 * p + k < 2 ^ 31 by omega), naddL, e1]
    · by_cases w : q = 20 * p + k
      · rw [e4 q (by omega), w, hIe]
      · exact e5 q (by omega) h2
end ZAY
