/-! declarations, both readers: a name is told -/
section ZRA
variable {U : Nat → Nat} {len x y n K np bl ub q dp nd cd us es na nb q2 N c : Nat} {s0 t0 tz s t s2 t2 : zσ} {G : Nat → Nat → Nat} {cnt : Nat → Nat}
/-- the names told, for both -/
def DT (x y K : Nat) (cnt : Nat → Nat) (N : Nat) (s t : zσ) : Prop := (∀ c, c < 9 → s.1 1005 c = nI (cnt c) ∧ t.1 (y + 4) c = nI (cnt c) ∧ cnt c ≤ 8) ∧ (cnt 1 ≤ 4 ∧ cnt 2 ≤ 4 ∧ cnt 3 ≤ 4 ∧ cnt 4 ≤ 4 ∧ cnt 5 + cnt 6 ≤ 4 ∧ cnt 7 ≤ 6) ∧ (t.1 y 0 = nI N ∧ N = cnt 0 + cnt 1 + cnt 2 + cnt 3 + cnt 4 + cnt 5 + cnt 6 + cnt 7 + cnt 8) ∧ (K = 0 → (∀ c, c < 9 → s.1 (x + 11) c = nI (cnt c)) ∧ (∀ k, k < N → ∃ c i, c < 9 ∧ i < cnt c ∧ t.1 (y + 2) k = nI c ∧ t.1 (y + 3) k = nI i ∧ s.2.1 (x + 2 + c) i = t.2.1 (y + 1) k) ∧ (∀ c i, c < 9 → i < cnt c → ∃ k, k < N ∧ t.1 (y + 2) k = nI c ∧ t.1 (y + 3) k = nI i ∧ s.2.1 (x + 2 + c) i = t.2.1 (y + 1) k) ∧ (∀ k j, k < N → j < N → t.2.1 (y + 1) k = t.2.1 (y + 1) j → k = j))
/-- how many of a sort count for its limit -/
def dCn (cnt : Nat → Nat) (c : Nat) : Nat := if c = 5 ∨ c = 6 then cnt 5 + cnt 6 else cnt c
def zmnp (c : Nat) : Nat := [8, 4, 4, 4, 4, 4, 4, 6, 8].getD c 0
theorem zmn_z : ∀ c : Fin 9, zmost.getD c.1 0 = nI (zmnp c.1) ∧ zmnp c.1 ≤ 8 := by decide +kernel
theorem DT_N (h : DT x y K cnt N s t) : N ≤ 50 := by
  have h0 := (h.1 0 (by omega)).2.2
  have h8 := (h.1 8 (by omega)).2.2
  have := h.2.1
  have := h.2.2.1.2
  omega
theorem DT_m (h : DT x y K cnt N s t) (hc : c < 9) : dCn cnt c ≤ zmnp c ∧ dCn cnt c ≤ 16 := by
  have h0 := (h.1 0 (by omega)).2.2
  have h8 := (h.1 8 (by omega)).2.2
  obtain ⟨h1, h2, h3, h4, h5, h7⟩ := h.2.1
  have : c = 0 ∨ c = 1 ∨ c = 2 ∨ c = 3 ∨ c = 4 ∨ c = 5 ∨ c = 6 ∨ c = 7 ∨ c = 8 := by omega
  rcases this with rfl | rfl | rfl | rfl | rfl | rfl | rfl | rfl | rfl
  · show cnt 0 ≤ 8 ∧ cnt 0 ≤ 16; omega
  · show cnt 1 ≤ 4 ∧ cnt 1 ≤ 16; omega
  · show cnt 2 ≤ 4 ∧ cnt 2 ≤ 16; omega
  · show cnt 3 ≤ 4 ∧ cnt 3 ≤ 16; omega
  · show cnt 4 ≤ 4 ∧ cnt 4 ≤ 16; omega
  · show cnt 5 + cnt 6 ≤ 4 ∧ cnt 5 + cnt 6 ≤ 16; omega
  · show cnt 5 + cnt 6 ≤ 4 ∧ cnt 5 + cnt 6 ≤ 16; omega
  · show cnt 7 ≤ 6 ∧ cnt 7 ≤ 16; omega
  · show cnt 8 ≤ 8 ∧ cnt 8 ≤ 16; omega
/-- the reference's table with a name more -/
def tlM (y c N i : Nat) (t : zσ) : zσ := sI (sI (sI (sI (sJ t (y + 1) N (t.2.1 1132 6)) (y + 2) N (nI c)) (y + 3) N (nI i)) y 0 (nI (N + 1))) (y + 4) c (nI (i + 1))
theorem m86 {i0 : Nat} (hN : N < 60) (hc : c < 9) (h0 : t.1 y 0 = nI N) (h4 : t.1 (y + 4) c = nI i0) (hi0 : i0 ≤ 8) : ∀ (d i j : Nat), i + d = N → d < j → ((∃ k, i ≤ k ∧ k < N ∧ t.2.1 (y + 1) k = t.2.1 1132 6) → f174_86 n j (nI c) y (nI i) t = yb0 (f173 n (4 : Int32) (t.1 1132 4) t) fun u7 => some ((0 : Int32), u7)) ∧ ((∀ k, i ≤ k → k < N → ¬ t.2.1 (y + 1) k = t.2.1 1132 6) → f174_86 n j (nI c) y (nI i) t = yb0 (f164 n (tlM y c N i0 t)) fun u6 => some (((u6.1 (y + 4) c) - (1 : Int32)), u6)) := by
  have hzc : zin? (nI c) 9 = true := zin_nI hc (by decide)
  have hnc : nx (nI c) = c := nx_nI (by omega)
  have hzN : zin? (nI N) 60 = true := zin_nI hN (by decide)
  intro d
  induction d with
  | zero =>
    intro i j hd hj
    obtain ⟨j, rfl⟩ : ∃ j0, j = j0 + 1 := ⟨j - 1, by omega⟩
    have e : i = N := by omega
    subst e
    refine ⟨fun ⟨k, a, b, _⟩ => by omega, fun _ => ?_⟩
    rw [f174_86, h0, if_neg (Int32.lt_irrefl)]
    simp (disch := omega) only [gJ1, if_pos hzN, if_pos hzc, zlet, nx_nI (show i < 2 ^ 31 by omega), hnc, h0, hIo, h4, nI_1]
    rfl
  | succ d ih =>
    intro i j hd hj
    obtain ⟨j, rfl⟩ : ∃ j0, j = j0 + 1 := ⟨j - 1, by omega⟩
    have e : f174_86 n (j + 1) (nI c) y (nI i) t = if t.2.1 (y + 1) i = t.2.1 1132 6 then (yb0 (f173 n (4 : Int32) (t.1 1132 4) t) fun u7 => some ((0 : Int32), u7)) else f174_86 n j (nI c) y (nI (i + 1)) t := by
      rw [f174_86, h0, if_pos (nI_lt (by omega) (by omega)), if_pos (zin_nI (show i < 60 by omega) (by decide)), nx_nI (show i < 2 ^ 31 by omega), nI_1]
    obtain ⟨g1, g2⟩ := ih (i + 1) j (by omega) (by omega)
    rw [e]
    by_cases h : t.2.1 (y + 1) i = t.2.1 1132 6
    · rw [if_pos h]
      exact ⟨fun _ => rfl, fun h2 => absurd h (h2 i (Nat.le_refl _) (by omega))⟩
    · rw [if_neg h]
      refine ⟨fun ⟨k, a, b, e2⟩ => g1 ⟨k, ?_, b, e2⟩, fun h2 => g2 (fun k a b => h2 k (by omega) b)⟩
      have : k ≠ i := fun e3 => h (e3 ▸ e2)
      omega
theorem m_tell (hn : 5000 ≤ n) (hS : S0 U len x y s0 t0) (h : ER U len x y s0 t0 K np tz G bl ub q dp nd cd us s t) (hD : DT x y K cnt N s t) (hc : c < 9) : (¬ tkKind U len q = 1 → f174 n (nI c) t = yb0 (f172 n t) fun u6 => some ((0 : Int32), u6)) ∧ (tkKind U len q = 1 → (dCn cnt c = zmnp c → f174 n (nI c) t = yb0 (f173 n (3 : Int32) (t.1 1132 4) t) fun u1 => some ((0 : Int32), u1)) ∧ (¬ dCn cnt c = zmnp c → ((∃ k, k < N ∧ t.2.1 (y + 1) k = t.2.1 1132 6) → f174 n (nI c) t = yb0 (f173 n (4 : Int32) (t.1 1132 4) t) fun u7 => some ((0 : Int32), u7)) ∧ ((∀ k, k < N → ¬ t.2.1 (y + 1) k = t.2.1 1132 6) → f174 n (nI c) t = yb0 (f164 n (tlM y c N (cnt c) t)) fun u6 => some (((u6.1 (y + 4) c) - (1 : Int32)), u6)))) := by
  have hy := hS.2.1
  have hM := h.2.1.2
  have hN := DT_N hD
  obtain ⟨k1, k2, k3⟩ := hD.1 c hc
  obtain ⟨p1, p2, p3⟩ := hD.1 5 (by omega)
  obtain ⟨r1, r2, r3⟩ := hD.1 6 (by omega)
  have hzc : zin? (nI c) 9 = true := zin_nI hc (by decide)
  have hnc : nx (nI c) = c := nx_nI (by omega)
  have h1206 : t.1 1206 c = nI (zmnp c) := by
    rw [h.2.1.1.1.1 1206 (by decide) (by omega), hS.2.2.2.2.2.2.2.2 c hc]; exact (zmn_z ⟨c, hc⟩).1
  have e61 : tkKind U len q = 1 → f174 n (nI c) t = f174_61 n (nI c) y (nI (dCn cnt c)) t := fun hk => by
    unfold f174 f174_38
    rw [ER_y hS h, grd (gck12 hy), m_goes hM.2, yb1_s, if_neg n10, tm_name hn hM.1, yb1_s, zone_1 hk, if_neg n10]
    have z5 : zin? (5 : Int32) 9 = true := by decide
    have z6 : zin? (6 : Int32) 9 = true := by decide
    rw [if_pos z5, if_pos z6, show nx (5 : Int32) = 5 from rfl, show nx (6 : Int32) = 6 from rfl, p2, r2, naddN]
    by_cases e5 : c = 5
    · subst e5; rw [if_pos (show nI 5 = 5 from rfl)]; rfl
    · rw [if_neg (show ¬ nI c = (5 : Int32) from fun e => e5 ((nIe (u := c) (k := 5) (by omega) (by decide)).mp e))]
      by_cases e6 : c = 6
      · subst e6; rw [if_pos (show nI 6 = 6 from rfl)]; rfl
      · rw [if_neg (show ¬ nI c = (6 : Int32) from fun e => e6 ((nIe (u := c) (k := 6) (by omega) (by decide)).mp e)), if_pos hzc, hnc, k2]
        unfold dCn
        rw [if_neg (by omega)]
  refine ⟨fun hk => ?_, fun hk => ⟨fun hm => ?_, fun hm => ?_⟩⟩
  · unfold f174
    rw [ER_y hS h, grd (gck12 hy), m_goes hM.2, yb1_s, if_neg n10, tm_name hn hM.1, yb1_s, zone_0 hk, if_pos rfl]
  · rw [e61 hk]
    unfold f174_61
    rw [if_pos hzc, hnc, h1206, hm, if_pos rfl]
  · have hmm := DT_m hD hc
    have hz8 := (zmn_z ⟨c, hc⟩).2
    simp only at hz8
    have e86 : f174_61 n (nI c) y (nI (dCn cnt c)) t = f174_86 n n (nI c) y (nI 0) t := by
      unfold f174_61
      rw [if_pos hzc, hnc, h1206, if_neg (fun e => hm ((nIe (by omega) (by omega)).mp e))]
      rfl
    rw [e61 hk, e86]
    obtain ⟨g1, g2⟩ := m86 (n := n) (c := c) (by omega) hc hD.2.2.1.1 k2 k3 N 0 n (by omega) (by omega)
    exact ⟨fun ⟨k, a, b⟩ => g1 ⟨k, Nat.zero_le _, a, b⟩, fun hno => g2 (fun k _ b => hno k b)⟩
/-- the class: is a name told -/
theorem c_35 (hn : 5000 ≤ n) (hx : x = 1060 ∨ x = 1096) {nm : Int64} (hr : ∀ c, c < 9 → s.2.2 (x + 1) c = some (x + 2 + c)) (hm : ∀ c, c < 9 → s.1 (x + 11) c = nI (cnt c) ∧ cnt c ≤ 8) : ∀ (d c j : Nat), c + d = 9 → d < j → ((∃ c' i, c ≤ c' ∧ c' < 9 ∧ i < cnt c' ∧ s.2.1 (x + 2 + c') i = nm) → f35_2 n j x nm (nI c) s = some (1, s)) ∧ ((∀ c' i, c ≤ c' → c' < 9 → i < cnt c' → ¬ s.2.1 (x + 2 + c') i = nm) → f35_2 n j x nm (nI c) s = some (0, s)) := by
  intro d
  induction d with
  | zero =>
    intro c j hd hj
    obtain ⟨j, rfl⟩ : ∃ j0, j = j0 + 1 := ⟨j - 1, by omega⟩
    refine ⟨fun ⟨c', i, a, b, _⟩ => by omega, fun _ => ?_⟩
    rw [f35_2, if_neg (show ¬ nI c < 9 from nI_nlt (b := 9) (by omega) (by omega))]
  | succ d ih =>
    intro c j hd hj
    obtain ⟨j, rfl⟩ : ∃ j0, j = j0 + 1 := ⟨j - 1, by omega⟩
    obtain ⟨g1, g2⟩ := ih (c + 1) j (by omega) (by omega)
    obtain ⟨m1, m2⟩ := hm c (by omega)
    obtain ⟨v, e1, hv⟩ := num_L (n := n) (nm := nm) hx (show c < 9 by omega) (hr c (by omega)) m1 m2 (cnt c) 0 n (by omega) (by omega) (by omega)
    have e : f35_2 n (j + 1) x nm (nI c) s = if v = -1 then f35_2 n j x nm (nI (c + 1)) s else some (1, s) := by
      rw [f35_2, if_pos (show nI c < 9 from nI_lt (b := 9) (by omega) (by decide))]
      unfold f36
      rw [show (0 : Int32) = nI 0 from rfl, e1, yb1_s, nI_1]
    rw [e]
    rcases hv with ⟨a, -, a2, a3, a4⟩ | ⟨a1, a2⟩
    · rw [if_neg (by rw [a4]; exact fun e => (neqM (by omega)).mp e)]
      exact ⟨fun _ => rfl, fun h2 => absurd a3 (h2 c a (Nat.le_refl _) (by omega) a2)⟩
    · rw [if_pos a1]
      refine ⟨fun ⟨c', i, b1, b2, b3, b4⟩ => g1 ⟨c', i, ?_, b2, b3, b4⟩, fun h2 => g2 (fun c' i b1 b2 b3 => h2 c' i (by omega) b2 b3)⟩
      have : c' ≠ c := fun e => by subst e; exact a2 i (Nat.zero_le _) b3 b4
      omega
end ZRA
