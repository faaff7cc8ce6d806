/-! codes and uses -/
section ZPO
variable {U : Nat → Nat} {len x y n K np bl ub q dp nd cd us q2 dp2 nd2 cd2 us2 : Nat} {s0 t0 tz s t s2 t2 : zσ} {G : Nat → Nat → Nat}
theorem er_emit {c d c2 d2 : Int32} (hS : S0 U len x y s0 t0) (h : ER U len x y s0 t0 K np tz G bl ub q dp nd cd us s t) (hlt : cd < nd) (H : Hb (fun u => u) K np y tz (f196 n c2 d2 t)) : Rs (FC len x s0) (FM len y t0) (ZB K y tz) (fun a b => EN U len x y s0 t0 K np tz G bl ub cd us q dp nd (cd + 1) us s t a b ∧ (K = 1 → a.1 (x + 27) cd = c ∧ a.1 (x + 28) cd = d ∧ tz.1 (y + 27) cd = c2 ∧ tz.1 (y + 28) cd = d2)) (f54 n (x + 19) c d s) (f196 n c2 d2 t) := by
  have hx := hS.1
  have hy := hS.2.1
  obtain ⟨-, -, -, ⟨d1, d2', d3⟩, ⟨n1, n2, n3⟩, ⟨k1, k2, k3⟩, ⟨u1, u2⟩, hK⟩ := id h
  have e1 : f54 n (x + 19) c d s = some (sI (sI (sI s (x + 27) cd c) (x + 28) cd d) (x + 19) 11 (nI (cd + 1))) := by
    unfold f54
    rw [k1]
    have hin : zin? (nI cd) 400 = true := zin_nI (by omega) (by decide)
    have g1 : ∀ j v, (sI s (x + 19 + 8) j v).1 (x + 19) 11 = nI cd := fun j v => by rw [hIo (by omega), k1]
    have g2 : ∀ j v j2 v2, (sI (sI s (x + 19 + 8) j v) (x + 19 + 9) j2 v2).1 (x + 19) 11 = nI cd := fun j v j2 v2 => by rw [hIo (by omega), g1]
    rw [if_pos (show nI cd < 400 from nI_lt (b := 400) (by omega) (by decide)), if_pos hin]
    simp only [zlet, g1, if_pos hin, g2, nI_1, nx_nI (show cd < 2 ^ 31 by omega)]
  have e2 : f196 n c2 d2 t = some (sI (sI (sI t (y + 27) cd c2) (y + 28) cd d2) y 31 (nI (cd + 1))) := by
    unfold f196
    have hin : zin? (nI cd) 900 = true := zin_nI (by omega) (by decide)
    have g1 : ∀ j v, (sI t (y + 27) j v).1 y 31 = nI cd := fun j v => by rw [hIo (by omega), k2]
    have g2 : ∀ j v j2 v2, (sI (sI t (y + 27) j v) (y + 28) j2 v2).1 y 31 = nI cd := fun j v j2 v2 => by rw [hIo (by omega), g1]
    have r0 := ER_y hS h
    have r1 : ∀ a j v, (sI t a j v).2.2 1132 12 = some y := fun _ _ _ => r0
    have r2 : ∀ a j v a2 j2 v2, (sI (sI t a j v) a2 j2 v2).2.2 1132 12 = some y := fun _ _ _ _ _ _ => r0
    rw [m_goes h.2.1.2.2, yb1_s, if_neg (by decide)]
    simp only [r0, grd (gck12 hS.2.1), k2, if_pos hin, zlet, r1, g1, r2, g2, nI_1, nx_nI (show cd < 2 ^ 31 by omega)]
  have o1 : frE x s (sI (sI (sI s (x + 27) cd c) (x + 28) cd d) (x + 19) 11 (nI (cd + 1))) := frE_tr (frE_tr (frE_I hx (by omega)) (frE_I hx (by omega))) (frE_I hx (by omega))
  have o2 : frM y t (sI (sI (sI t (y + 27) cd c2) (y + 28) cd d2) y 31 (nI (cd + 1))) := frM_tr (frM_tr (frM_I hy (by omega)) (frM_I hy (by omega))) (frM_I hy (by omega))
  refine Rs_A e1 e2 ⟨⟨⟨o1, o2, fun _ p hp => ⟨?_, ?_⟩, fun u hu => ?_, fun u a b => by omega⟩, ER_of hS h o1 o2 (CG_I (by omega) (by omega) (by omega) (CG_I (by omega) (by omega) (by omega) (CG_I (by omega) (by omega) (by omega) h.1.2))) (MG_I (by omega) (by omega) (MG_I (by omega) (by omega) (MG_I (by omega) (by omega) h.2.1.2))) ?_ ?_ d3 ?_ ?_ n3 hIe hIe (by omega) ?_ u2 (fun e => ⟨Hb_L H e2 e, (hK e).2.1⟩)⟩, fun e => ?_⟩
  · rw [hIo (by omega), hIo (by omega), hIx (by omega)]
  · rw [hIo (by omega), hIx (by omega), hIo (by omega)]
  · rw [hIo (by omega), hIo (by omega), hIo (by omega)]
  · rw [hIo (by omega), hIo (by omega), hIo (by omega)]; exact d1
  · rw [hIo (by omega), hIo (by omega), hIo (by omega)]; exact d2'
  · rw [hIk (by decide), hIo (by omega), hIo (by omega)]; exact n1
  · rw [hIk (by decide), hIo (by omega), hIo (by omega)]; exact n2
  · rw [hIk (by decide), hIo (by omega), hIo (by omega)]; exact u1
  · have hL := Hb_L H e2 e
    obtain ⟨cd1, cz, w1, w2, w3, w4, w5⟩ := hL.2.2.1
    have hc1 : cd1 = cd + 1 := (nI_eq (by omega) (by omega)).mp (w1.symm.trans hIe)
    have := w5 cd (by omega)
    refine ⟨?_, ?_, this.1.symm.trans ?_, this.2.symm.trans ?_⟩
    · rw [hIo (by omega), hIo (by omega), hIe]
    · rw [hIo (by omega), hIe]
    · rw [hIo (by omega), hIo (by omega), hIe]
    · rw [hIo (by omega), hIe]
/-! the meaning of a name -/
theorem zrk_r (hx : x = 1060 ∨ x = 1096) {c : Nat} (hc : c < 9) : zrk (x + 2 + c) = true := by
  have h1 : ∀ c : Fin 9, zrk (1060 + 2 + c.1) = true ∧ zrk (1096 + 2 + c.1) = true := by decide
  rcases hx with rfl | rfl
  · exact (h1 ⟨c, hc⟩).1
  · exact (h1 ⟨c, hc⟩).2
/-- numberOf -/
theorem num_L {c m : Nat} {nm : Int64} (hx : x = 1060 ∨ x = 1096) (hc : c < 9) (hr : s.2.2 (x + 1) c = some (x + 2 + c)) (hm : s.1 (x + 11) c = nI m) (hm8 : m ≤ 8) : ∀ (k i j : Nat), m - i = k → i ≤ m → k < j → (∃ v, f36_3 n j x (nI c) nm (nI i) s = some (v, s) ∧ ((∃ a, i ≤ a ∧ a < m ∧ s.2.1 (x + 2 + c) a = nm ∧ v = nI a) ∨ (v = -1 ∧ ∀ a, i ≤ a → a < m → ¬ s.2.1 (x + 2 + c) a = nm))) := by
  intro k
  have hin : zin? (nI c) 9 = true := zin_nI hc (by decide)
  induction k with
  | zero =>
    intro i j h1 h2 h3
    obtain ⟨j, rfl⟩ : ∃ j0, j = j0 + 1 := ⟨j - 1, by omega⟩
    refine ⟨-1, ?_, Or.inr ⟨rfl, fun a h4 h5 => by omega⟩⟩
    rw [f36_3, if_pos hin, nx_nI (show c < 2 ^ 31 by omega), hm, if_neg (nI_nlt (by omega) (by omega))]
  | succ k ih =>
    intro i j h1 h2 h3
    obtain ⟨j, rfl⟩ : ∃ j0, j = j0 + 1 := ⟨j - 1, by omega⟩
    have e : f36_3 n (j + 1) x (nI c) nm (nI i) s = if s.2.1 (x + 2 + c) i = nm then some (nI i, s) else f36_3 n j x (nI c) nm (nI (i + 1)) s := by
      rw [f36_3, if_pos hin, nx_nI (show c < 2 ^ 31 by omega), hm, if_pos (nI_lt (by omega) (by omega)), if_pos hin, hr, grw (zrk_r hx hc), if_pos (zin_nI (by omega) (by decide)), nx_nI (show i < 2 ^ 31 by omega), nI_1]
    rw [e]
    by_cases h4 : s.2.1 (x + 2 + c) i = nm
    · rw [if_pos h4]
      exact ⟨_, rfl, Or.inl ⟨i, Nat.le_refl _, by omega, h4, rfl⟩⟩
    · rw [if_neg h4]
      obtain ⟨v, e2, h5⟩ := ih (i + 1) j (by omega) (by omega) (by omega)
      refine ⟨v, e2, ?_⟩
      rcases h5 with ⟨a, a1, a2, a3, a4⟩ | ⟨a1, a2⟩
      · exact Or.inl ⟨a, by omega, a2, a3, a4⟩
      · refine Or.inr ⟨a1, fun a b1 b2 => ?_⟩
        by_cases h6 : a = i
        · subst h6; exact h4
        · exact a2 a (by omega) b2
/-- the parameters -/
def pvF (s : zσ) (a : Int32) (nm : Int64) (v : Int32) : Nat → Int32
  | 0 => v
  | m + 1 => if s.2.1 1006 m = nm then (if a = 9 then nI (8 + m) else -1) else pvF s a nm v m
theorem par_L {a v : Int32} {m : Nat} (hm : s.1 1004 3 = nI m) (hm3 : m ≤ 3) : ∀ (k i j : Nat), m - i = k → i ≤ m → k < j → f57_54 n j a (pvF s a (s.2.1 1001 7) v i) (nI i) s = f57_100 n (pvF s a (s.2.1 1001 7) v m) s := by
  intro k
  induction k with
  | zero =>
    intro i j h1 h2 h3
    obtain ⟨j, rfl⟩ : ∃ j0, j = j0 + 1 := ⟨j - 1, by omega⟩
    have e : i = m := by omega
    subst e
    rw [f57_54, hm, if_neg (nI_nlt (by omega) (by omega))]
  | succ k ih =>
    intro i j h1 h2 h3
    obtain ⟨j, rfl⟩ : ∃ j0, j = j0 + 1 := ⟨j - 1, by omega⟩
    have h4 := ih (i + 1) j (by omega) (by omega) (by omega)
    rw [f57_54, hm, if_pos (nI_lt (by omega) (by omega)), if_pos (zin_nI (by omega) (by decide)), nx_nI (show i < 2 ^ 31 by omega), ← h4]
    show _ = f57_54 n j a (if s.2.1 1006 i = s.2.1 1001 7 then (if a = 9 then nI (8 + i) else -1) else pvF s a (s.2.1 1001 7) v i) (nI (i + 1)) s
    by_cases h5 : s.2.1 1006 i = s.2.1 1001 7
    · rw [if_pos h5, if_pos h5]
      by_cases h6 : a = 9
      · rw [if_pos h6, if_pos h6]
        show f57_54 n j a (8 + nI i) (nI i + 1) s = _
        rw [nI_1, show (8 : Int32) + nI i = nI (8 + i) from (Int32.ofNat_add 8 i).symm]
      · rw [if_neg h6, if_neg h6]
        show f57_54 n j a (-1) (nI i + 1) s = _
        rw [nI_1]
    · rw [if_neg h5, if_neg h5]
      show f57_54 n j a _ (nI i + 1) s = _
      rw [nI_1]
/-- what a name means, and the class's number for it: a 9 for a var or parameter -/
def mnR (G : Nat → Nat → Nat) (m : Nat) (a : Int32) (v : Int32) (z : Int32 × Int32) : Prop := (∃ c i, c < 9 ∧ a = nI c ∧ i < G 6 c ∧ z = (nI c, nI i) ∧ v = nI i) ∨ (a = 9 ∧ ∃ i, i < G 6 0 ∧ z = (0, nI i) ∧ v = nI i) ∨ (a = 9 ∧ ∃ k, k < m ∧ z = (9, nI k) ∧ v = nI (8 + k)) ∨ (v = -1 ∧ ¬ z.1 = a ∧ (a = 9 → ¬ z.1 = 0))
theorem nm_eq {nm : Int64} {k : Nat} (hu : ∀ i j, i < k → j < k → tz.2.1 (y + 1) i = tz.2.1 (y + 1) j → i = j) : (∃ i, i < k ∧ tz.2.1 (y + 1) i = nm ∧ nmF tz y nm k = (tz.1 (y + 2) i, tz.1 (y + 3) i)) ∨ ((∀ i, i < k → ¬ tz.2.1 (y + 1) i = nm) ∧ nmF tz y nm k = (-1, -1)) := by
  induction k with
  | zero => exact Or.inr ⟨fun i h => by omega, rfl⟩
  | succ k ih =>
    by_cases h : tz.2.1 (y + 1) k = nm
    · exact Or.inl ⟨k, by omega, h, if_pos h⟩
    · have e : nmF tz y nm (k + 1) = nmF tz y nm k := if_neg h
      rw [e]
      rcases ih (fun i j a b => hu i j (by omega) (by omega)) with ⟨i, h1, h2, h3⟩ | ⟨h1, h2⟩
      · exact Or.inl ⟨i, by omega, h2, h3⟩
      · refine Or.inr ⟨fun i hi => ?_, h2⟩
        by_cases h4 : i = k
        · subst h4; exact h
        · exact h1 i (by omega)
theorem mn_0 {a : Int32} {c0 : Nat} {nm : Int64} {v : Int32} (hN : nmT G x y s0 tz) (hc : c0 < 9) (ha : a = nI c0 ∨ a = 9 ∧ c0 = 0) (hv : (∃ i, i < G 6 c0 ∧ s0.2.1 (x + 2 + c0) i = nm ∧ v = nI i) ∨ (v = -1 ∧ ∀ i, i < G 6 c0 → ¬ s0.2.1 (x + 2 + c0) i = nm)) : mnR G 0 a v (nmF tz y nm (nx (tz.1 y 0))) := by
  obtain ⟨hN0, N, hN1, hN2, hN3, hN4, hN5⟩ := hN
  rw [hN2, nx_nI (show N < 2 ^ 31 by omega)]
  have hm9 : ∀ c, c < 9 → ¬ nI c = 9 := fun c hc e => by
    have := (nIe (u := c) (k := 9) (by omega) (by decide)).mp e
    omega
  rcases nm_eq (nm := nm) (k := N) hN5 with ⟨k, h1, h2, h3⟩ | ⟨h1, h2⟩
  · rw [h3]
    obtain ⟨c1, i1, b1, b2, b3, b4, b5⟩ := hN3 k h1
    rw [b3, b4]
    by_cases hcc : c1 = c0
    · subst hcc
      rcases hv with ⟨i, a1, a2, a3⟩ | ⟨a1, a2⟩
      · obtain ⟨k2, g1, g2, g3, g4⟩ := hN4 c1 i b1 a1
        have : k2 = k := hN5 k2 k g1 h1 (by rw [← g4, a2, h2])
        subst this
        have hi : i = i1 := (nI_eq (by have := (hN0 c1 b1).2; omega) (by have := (hN0 c1 b1).2; omega)).mp (g3.symm.trans b4) 
        subst hi
        rcases ha with ha | ⟨ha, h0⟩
        · exact Or.inl ⟨c1, i, b1, ha, a1, rfl, a3⟩
        · subst h0
          exact Or.inr (Or.inl ⟨ha, i, a1, rfl, a3⟩)
      · exact absurd (b5.trans h2) (a2 i1 b2)
    · rcases hv with ⟨i, a1, a2, a3⟩ | ⟨a1, a2⟩
      · exfalso
        obtain ⟨k2, g1, g2, g3, g4⟩ := hN4 c0 i hc a1
        have : k2 = k := hN5 k2 k g1 h1 (by rw [← g4, a2, h2])
        subst this
        exact hcc ((nI_eq (by omega) (by omega)).mp (b3.symm.trans g2))
      · refine Or.inr (Or.inr (Or.inr ⟨a1, fun e => ?_, fun _ e => ?_⟩))
        · rcases ha with ha | ⟨ha, h0⟩
          · exact hcc ((nI_eq (by omega) (by omega)).mp (e.trans ha))
          · exact hm9 c1 b1 (e.trans ha)
        · rcases ha with ha | ⟨ha, h0⟩
          · rename_i h9
            exact hm9 c0 hc (ha.symm.trans h9)
          · subst h0
            exact hcc ((nI_eq (b := 0) (by omega) (by omega)).mp e)
  · rw [h2]
    have hno : ∀ i, i < G 6 c0 → ¬ s0.2.1 (x + 2 + c0) i = nm := fun i hi e => by
      obtain ⟨k2, g1, g2, g3, g4⟩ := hN4 c0 i hc hi
      exact h1 k2 g1 (g4.symm.trans e)
    rcases hv with ⟨i, a1, a2, a3⟩ | ⟨a1, a2⟩
    · exact absurd a2 (hno i a1)
    · refine Or.inr (Or.inr (Or.inr ⟨a1, fun e => ?_, fun _ => by decide⟩))
      rcases ha with ha | ⟨ha, h0⟩
      · rw [ha] at e
        exact (neqM (show c0 < 2 ^ 31 by omega)).mp e.symm
      · rw [ha] at e
        exact absurd e (by decide)
theorem mn_p {a : Int32} {p : Nat} {nm : Int64} {v : Int32} {z : Int32 × Int32} (ha : a = 9 ∨ ∃ c, c < 9 ∧ a = nI c) (h0 : mnR G 0 a v z) : ∀ m, m ≤ 3 → (∀ k, k < m → s.2.1 1006 k = tz.2.1 (y + 12) (3 * p + k)) → mnR G m a (pvF s a nm v m) (paF tz y p nm z m)
  | 0, _, _ => h0
  | m + 1, hm, hs => by
    have ih := mn_p (nm := nm) ha h0 m (by omega) (fun k hk => hs k (by omega))
    unfold pvF paF
    rw [hs m (by omega)]
    by_cases h : tz.2.1 (y + 12) (3 * p + m) = nm
    · rw [if_pos h, if_pos h]
      by_cases h9 : a = 9
      · rw [if_pos h9]
        exact Or.inr (Or.inr (Or.inl ⟨h9, m, by omega, rfl, rfl⟩))
      · rw [if_neg h9]
        exact Or.inr (Or.inr (Or.inr ⟨rfl, fun e => h9 e.symm, fun e => absurd e h9⟩))
    · rw [if_neg h, if_neg h]
      rcases ih with h1 | h1 | ⟨h1, k, h2, h3⟩ | h1
      · exact Or.inl h1
      · exact Or.inr (Or.inl h1)
      · exact Or.inr (Or.inr (Or.inl ⟨h1, k, by omega, h3⟩))
      · exact Or.inr (Or.inr (Or.inr h1))
/-- what the class does at a name, in the second pass -/
theorem mean_ok {a : Int32} {c0 : Nat} (hn : 5000 ≤ n) (hS : S0 U len x y s0 t0) (hN : nmT G x y s0 tz) (h : ER U len x y s0 t0 K np tz G bl ub q dp nd cd us s t) (hK : K = 1) (hk : tkKind U len q = 1) (hc : c0 < 9) (ha : a = nI c0 ∨ a = 9 ∧ c0 = 0) (h29 : tz.2.1 (y + 29) us = s.2.1 1001 7) (h32 : tz.1 (y + 32) us = t.1 1132 15) : ∃ m v, m ≤ 3 ∧ (0 < m → 8 ≤ G 5 bl ∧ m = G 12 (G 5 bl - 8)) ∧ f57 n a s = f57_100 n v s ∧ mnR G m a v (zso tz y us) := by
  have hx := hS.1
  obtain ⟨-, hE⟩ := h.2.2.2.2.2.2.2 hK
  obtain ⟨-, e11, enm, hp⟩ := hE
  obtain ⟨g1, g2, g3, g4⟩ := BC_rf hS h.1.1
  have hr : s.2.2 (x + 1) c0 = some (x + 2 + c0) := g4 c0 hc
  have hcnt : s.1 (x + 11) c0 = nI (G 6 c0) := by rw [e11]; exact (hN.1 c0 hc).1
  obtain ⟨v, e1, hv⟩ := num_L (n := n) (nm := s.2.1 1001 7) hx hc hr hcnt (hN.1 c0 hc).2 (G 6 c0) 0 n (by omega) (by omega) (by have := (hN.1 c0 hc).2; omega)
  have hv2 : (∃ i, i < G 6 c0 ∧ s0.2.1 (x + 2 + c0) i = s.2.1 1001 7 ∧ v = nI i) ∨ (v = -1 ∧ ∀ i, i < G 6 c0 → ¬ s0.2.1 (x + 2 + c0) i = s.2.1 1001 7) := by
    rw [← enm c0 hc]
    rcases hv with ⟨i, -, a2, a3, a4⟩ | ⟨a1, a2⟩
    · exact Or.inl ⟨i, a2, a3, a4⟩
    · exact Or.inr ⟨a1, fun i hi => a2 i (Nat.zero_le _) hi⟩
  have hm0 := mn_0 hN hc ha hv2
  have hcl : ∀ m, m ≤ 3 → s.1 1004 3 = nI m → f57 n a s = f57_100 n (pvF s a (s.2.1 1001 7) v m) s := by
    intro m hm e3
    have e2 := par_L (n := n) (a := a) (v := v) e3 hm m 0 n (by omega) (by omega) (by omega)
    rw [← e2]
    unfold f57
    rw [ER_k h, hk, if_pos rfl, h.2.2.1, hK, if_neg (by decide), g1, grd (gck9 hx).1]
    have e4 : ∀ b, b = nI c0 → f57_41 n a b x s = f57_54 n n a v 0 s := fun b hb => by
      unfold f57_41 f36
      rw [hb, show (0 : Int32) = nI 0 from rfl, e1]
      rfl
    by_cases h9 : a = 9
    · rw [if_pos h9]
      refine e4 0 ?_
      rcases ha with ha | ⟨-, h0⟩
      · exfalso
        have := (nIe (u := c0) (k := 9) (by omega) (by decide)).mp (ha.symm.trans h9)
        omega
      · rw [h0]; rfl
    · rw [if_neg h9]
      refine e4 a ?_
      rcases ha with ha | ⟨ha, -⟩
      · exact ha
      · exact absurd ha h9
  have ha2 : a = 9 ∨ ∃ c, c < 9 ∧ a = nI c := by
    rcases ha with ha | ⟨ha, -⟩
    · exact Or.inr ⟨c0, hc, ha⟩
    · exact Or.inl ha
  rcases hp with ⟨p1, p2⟩ | ⟨p, m, p1, p2, p3, p4, p5, p6, p7, p8, p9⟩
  · refine ⟨0, v, by omega, fun h => by omega, hcl 0 (by omega) p1, ?_⟩
    unfold zso
    rw [if_pos (h32.trans p2), h29]
    exact hm0
  · refine ⟨m, _, p3, fun _ => ⟨by omega, ?_⟩, hcl m p3 p4, ?_⟩
    · rw [p7, show 8 + p - 8 = p by omega, p8]
    · have e32 : tz.1 (y + 32) us = nI p := h32.trans p5
      unfold zso
      rw [if_neg (fun e => (neqM (show p < 2 ^ 31 by omega)).mp (e32.symm.trans e)), e32, nx_nI (show p < 2 ^ 31 by omega), p6, nx_nI (show m < 2 ^ 31 by omega), h29]
      exact mn_p ha2 hm0 m p3 p9
end ZPO
