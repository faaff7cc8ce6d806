/-! how often a sema stands in a list -/
section ZBF
variable {G W : Nat → Nat → Nat} {F : Nat → Nat → Nat → Nat} {B C x y n i j D r v : Nat} {s t : zσ}
def zcn : List Nat → Nat → Nat
  | [], _ => 0
  | v :: l, k => (if v = k then 1 else 0) + zcn l k
theorem dig : ∀ a b c d : Fin 5, (nI (a.1 + 16 * (b.1 + 16 * (c.1 + 16 * d.1))) >>> ((4 * (0 : Int32)) &&& 31)) &&& 15 = nI a.1 ∧ (nI (a.1 + 16 * (b.1 + 16 * (c.1 + 16 * d.1))) >>> ((4 * (1 : Int32)) &&& 31)) &&& 15 = nI b.1 ∧ (nI (a.1 + 16 * (b.1 + 16 * (c.1 + 16 * d.1))) >>> ((4 * (2 : Int32)) &&& 31)) &&& 15 = nI c.1 ∧ (nI (a.1 + 16 * (b.1 + 16 * (c.1 + 16 * d.1))) >>> ((4 * (3 : Int32)) &&& 31)) &&& 15 = nI d.1 := by decide +kernel
theorem c_109d {a b c d k : Nat} (hn : 5 ≤ n) (ha : a < 5) (hb : b < 5) (hc : c < 5) (hd : d < 5) (hk : k < 4) : f109 n (nI (a + 16 * (b + 16 * (c + 16 * d)))) (nI k) s = some (nI ((if a = k + 1 then 1 else 0) + ((if b = k + 1 then 1 else 0) + ((if c = k + 1 then 1 else 0) + (if d = k + 1 then 1 else 0)))), s) := by
  obtain ⟨m, rfl⟩ : ∃ m, n = m + 5 := ⟨n - 5, by omega⟩
  obtain ⟨e0, e1, e2, e3⟩ := dig ⟨a, ha⟩ ⟨b, hb⟩ ⟨c, hc⟩ ⟨d, hd⟩
  simp only at e0 e1 e2 e3
  have st : ∀ (N p q : Nat) (X : Int32) (u : Nat), q < 4 → u < 5 → (X >>> ((4 * nI q) &&& 31)) &&& 15 = nI u → f109_4 (m + 5) (N + 1) X (nI k) (nI p) (nI q) s = f109_4 (m + 5) N X (nI k) (nI (p + (if u = k + 1 then 1 else 0))) (nI (q + 1)) s := by
    intro N p q X u hq hu e
    rw [f109_4, if_pos (show nI q < 4 from (nltN (b := 4) (by omega) (by decide)).mpr hq), e, naddL, naddL]
    by_cases w : u = k + 1
    · rw [if_pos (by rw [w]), if_pos w]
      unfold f109_26
      rw [naddL]
    · rw [if_neg (fun q => w ((neqN (by omega) (by omega)).mp q)), if_neg w]
      unfold f109_26
      rw [naddL]
      rfl
  show f109_4 (m + 5) (m + 5) _ _ (nI 0) (nI 0) s = _
  rw [st (m + 4) 0 0 _ a (by decide) ha e0, st (m + 3) _ 1 _ b (by decide) hb e1, st (m + 2) _ 2 _ c (by decide) hc e2, st (m + 1) _ 3 _ d (by decide) hd e3, f109_4, if_neg (by decide)]
  congr 2
  congr 1
  omega
/-- the class's count -/
theorem c_109 {l : List Nat} {k : Nat} (hn : 5 ≤ n) (hl : l.length ≤ 4) (hv : ∀ v, v ∈ l → v < 4) (hk : k < 4) : f109 n (nI (zpk l)) (nI k) s = some (nI (zcn l k), s) := by
  have pl : ∀ a : Nat, (if a + 1 = k + 1 then 1 else 0) = (if a = k then 1 else 0) := fun a => by
    by_cases q : a = k
    · rw [if_pos (by omega), if_pos q]
    · rw [if_neg (by omega), if_neg q]
  have p0 : (if 0 = k + 1 then 1 else 0) = 0 := if_neg (by omega)
  match l, hl, hv with
  | [], _, _ =>
    have := c_109d (n := n) (s := s) (a := 0) (b := 0) (c := 0) (d := 0) (k := k) hn (by decide) (by decide) (by decide) (by decide) hk
    simp only [p0] at this
    exact this
  | [a], _, hv =>
    have h1 := hv a (by simp)
    have := c_109d (n := n) (s := s) (a := a + 1) (b := 0) (c := 0) (d := 0) (k := k) hn (by omega) (by decide) (by decide) (by decide) hk
    simp only [p0, pl] at this
    exact this
  | [a, b], _, hv =>
    have h1 := hv a (by simp)
    have h2 := hv b (by simp)
    have := c_109d (n := n) (s := s) (a := a + 1) (b := b + 1) (c := 0) (d := 0) (k := k) hn (by omega) (by omega) (by decide) (by decide) hk
    simp only [p0, pl] at this
    exact this
  | [a, b, c], _, hv =>
    have h1 := hv a (by simp)
    have h2 := hv b (by simp)
    have h3 := hv c (by simp)
    have := c_109d (n := n) (s := s) (a := a + 1) (b := b + 1) (c := c + 1) (d := 0) (k := k) hn (by omega) (by omega) (by omega) (by decide) hk
    simp only [p0, pl] at this
    exact this
  | [a, b, c, d], _, hv =>
    have h1 := hv a (by simp)
    have h2 := hv b (by simp)
    have h3 := hv c (by simp)
    have h4 := hv d (by simp)
    have := c_109d (n := n) (s := s) (a := a + 1) (b := b + 1) (c := c + 1) (d := d + 1) (k := k) hn (by omega) (by omega) (by omega) (by omega) hk
    simp only [pl] at this
    exact this
  | a :: b :: c :: d :: e :: l', hl, _ => exact absurd hl (by simp only [List.length_cons]; omega)
end ZBF
