/-! who of the ready ones comes first: both choose the same -/
section ZCP
variable {G W W2 : Nat → Nat → Nat} {F F2 : Nat → Nat → Nat → Nat} {B C C2 x y n i j o k v p D r N P : Nat} {s t s2 t2 s' t' : zσ}
theorem c_rank {r4 : Int32 → Int32 → zσ → Option (Int32 × zσ)} {x1 x2 : Int32} (hN : N ≤ 8) (a12 : s'.1 1007 12 = nI N) (rt : ∀ i, i < 8 → s'.2.2 1008 i = some (1036 + 3 * i)) (ag : ∀ a, a ≠ 1034 → s'.1 a = s.1 a) : ∀ m j fu c, j + m = N → m < fu → f88_36 n r4 fu x1 x2 (1036 + 3 * i) (nI c) (nI j) s' = (if nI (c + zct (fun j => decide (s.1 (1036 + 3 * j) 3 = 1 ∧ (s.1 (1036 + 3 * j) 4 < s.1 (1036 + 3 * i) 4 ∨ (s.1 (1036 + 3 * j) 4 = s.1 (1036 + 3 * i) 4 ∧ s.1 (1036 + 3 * j) 11 < s.1 (1036 + 3 * i) 11)))) m j) < s'.1 1007 13 then if zin? (nI (c + zct (fun j => decide (s.1 (1036 + 3 * j) 3 = 1 ∧ (s.1 (1036 + 3 * j) 4 < s.1 (1036 + 3 * i) 4 ∨ (s.1 (1036 + 3 * j) 4 = s.1 (1036 + 3 * i) 4 ∧ s.1 (1036 + 3 * j) 11 < s.1 (1036 + 3 * i) 11)))) m j)) 8 = true then f88_140 n r4 (x1 + 1) x2 (sI s' 1034 (nx (nI (c + zct (fun j => decide (s.1 (1036 + 3 * j) 3 = 1 ∧ (s.1 (1036 + 3 * j) 4 < s.1 (1036 + 3 * i) 4 ∨ (s.1 (1036 + 3 * j) 4 = s.1 (1036 + 3 * i) 4 ∧ s.1 (1036 + 3 * j) 11 < s.1 (1036 + 3 * i) 11)))) m j))) x2) else none else f88_140 n r4 x1 x2 s') := by
  intro m
  induction m with
  | zero =>
    intro j fu c hj hf
    obtain ⟨fu, rfl⟩ : ∃ f0, fu = f0 + 1 := ⟨fu - 1, by omega⟩
    have e0 : ∀ P : Nat → Bool, zct P 0 j = 0 := fun _ => rfl
    rw [f88_36, a12, show j = N by omega, if_neg Int32.lt_irrefl, zlet]
    rfl
  | succ m ih =>
    intro j fu c hj hf
    obtain ⟨fu, rfl⟩ : ∃ f0, fu = f0 + 1 := ⟨fu - 1, by omega⟩
    have hj8 : j < 8 := by omega
    have z8 : zin? (nI j) 8 = true := (zinN (by omega)).mpr hj8
    have e114 : ∀ c, f88_114 n r4 (f88_36 n r4 fu) x1 x2 (1036 + 3 * i) c (nI j) s' = f88_36 n r4 fu x1 x2 (1036 + 3 * i) c (nI (j + 1)) s' := by
      intro c; unfold f88_114; rw [naddL]
    have up : ∀ P : Nat → Bool, P j = true → c + zct P (m + 1) j = c + 1 + zct P m (j + 1) := fun P h => by rw [zct, if_pos h]; omega
    have no : ∀ P : Nat → Bool, ¬ P j = true → c + zct P (m + 1) j = c + zct P m (j + 1) := fun P h => by rw [zct, if_neg h]; omega
    rw [f88_36, a12, if_pos ((nltN (by omega) (by omega)).mpr (by omega)), if_pos z8, nxN (show j < 2 ^ 31 by omega), rt j hj8, grd (gck8 hj8)]
    unfold f88_90 f88_94 f88_95
    simp only [e114, naddL]
    rw [ag (1036 + 3 * j) (by omega), ag (1036 + 3 * i) (by omega)]
    by_cases q : s.1 (1036 + 3 * j) 3 = 1 ∧ (s.1 (1036 + 3 * j) 4 < s.1 (1036 + 3 * i) 4 ∨ (s.1 (1036 + 3 * j) 4 = s.1 (1036 + 3 * i) 4 ∧ s.1 (1036 + 3 * j) 11 < s.1 (1036 + 3 * i) 11))
    · rw [up _ (decide_eq_true q)]
      rw [if_pos q.1, if_pos q.1]
      have go := ih (j + 1) fu (c + 1) (by omega) (by omega)
      rcases q.2 with w | ⟨w1, w2⟩
      · rw [if_pos w]; exact go
      · rw [if_neg (by rw [w1]; exact Int32.lt_irrefl), if_pos w1, if_pos w2]; exact go
    · rw [no _ (fun w => q (of_decide_eq_true w))]
      have go := ih (j + 1) fu c (by omega) (by omega)
      by_cases w : s.1 (1036 + 3 * j) 3 = 1
      · rw [if_pos w, if_pos w, if_neg (fun u => q ⟨w, Or.inl u⟩)]
        by_cases w1 : s.1 (1036 + 3 * j) 4 = s.1 (1036 + 3 * i) 4
        · rw [if_pos w1, if_neg (fun u => q ⟨w, Or.inr ⟨w1, u⟩⟩)]; exact go
        · rw [if_neg w1]; exact go
      · rw [if_neg w, if_neg w]
        split
        · exact go
        · split
          · split
            · exact go
            · exact go
          · exact go
/-- all that the class lays -/
theorem c_chs (hn : 1000 ≤ n) (h : RUN G F W B C x y s t) (hP : s.1 1007 13 = nI P) (hP3 : P ≤ 3) : ∀ m i fu c (s' : zσ), s'.2 = s.2 → (∀ a, a ≠ 1034 → s'.1 a = s.1 a) → i + m = G 6 8 → m < fu → ∃ s2, f88_4 n fu (nI c) (nI i) s' = some (nI (c + zct (fun q => decide (s.1 (1036 + 3 * q) 3 = 1 ∧ rk (G 6 8) q s < P)) m i), s2) ∧ s2.2 = s.2 ∧ (∀ a, a ≠ 1034 → s2.1 a = s.1 a) ∧ (∀ q, i ≤ q → q < G 6 8 → rdy q s → rk (G 6 8) q s < P → s2.1 1034 (rk (G 6 8) q s) = nI q) ∧ (∀ r, (∀ q, i ≤ q → q < G 6 8 → rdy q s → rk (G 6 8) q s < P → rk (G 6 8) q s ≠ r) → s2.1 1034 r = s'.1 1034 r) := by
  have h88 := (h.2.1.1.1 8 (by decide)).2.2
  have rt := h.1.2.2.2.2.2.2
  have a12 : s.1 1007 12 = nI (G 6 8) := h.2.2.1.1.2.2.2.2.2.2.2.1
  intro m
  induction m with
  | zero =>
    intro i fu c s' hs2 ag hi hf
    obtain ⟨fu, rfl⟩ : ∃ f0, fu = f0 + 1 := ⟨fu - 1, by omega⟩
    refine ⟨s', ?_, hs2, ag, fun q q1 q2 => by omega, fun _ _ => rfl⟩
    rw [f88_4, ag 1007 (by decide), a12, show i = G 6 8 by omega, if_neg Int32.lt_irrefl]
    rfl
  | succ m ih =>
    intro i fu c s' hs2 ag hi hf
    obtain ⟨fu, rfl⟩ : ∃ f0, fu = f0 + 1 := ⟨fu - 1, by omega⟩
    have hi8 : i < 8 := by omega
    have z8 : zin? (nI i) 8 = true := (zinN (by omega)).mpr hi8
    have rt' : ∀ i, i < 8 → s'.2.2 1008 i = some (1036 + 3 * i) := fun i hi => by rw [hs2]; exact rt i hi
    have a12' : s'.1 1007 12 = nI (G 6 8) := by rw [ag 1007 (by decide)]; exact a12
    have a13' : s'.1 1007 13 = nI P := by rw [ag 1007 (by decide)]; exact hP
    have e140 : ∀ c u, f88_140 n (f88_4 n fu) c (nI i) u = f88_4 n fu c (nI (i + 1)) u := by
      intro c u; unfold f88_140; rw [naddL]
    have skip : ¬ (s.1 (1036 + 3 * i) 3 = 1 ∧ rk (G 6 8) i s < P) → f88_4 n (fu + 1) (nI c) (nI i) s' = f88_4 n fu (nI c) (nI (i + 1)) s' → ∃ s2, f88_4 n (fu + 1) (nI c) (nI i) s' = some (nI (c + zct (fun q => decide (s.1 (1036 + 3 * q) 3 = 1 ∧ rk (G 6 8) q s < P)) (m + 1) i), s2) ∧ s2.2 = s.2 ∧ (∀ a, a ≠ 1034 → s2.1 a = s.1 a) ∧ (∀ q, i ≤ q → q < G 6 8 → rdy q s → rk (G 6 8) q s < P → s2.1 1034 (rk (G 6 8) q s) = nI q) ∧ (∀ r, (∀ q, i ≤ q → q < G 6 8 → rdy q s → rk (G 6 8) q s < P → rk (G 6 8) q s ≠ r) → s2.1 1034 r = s'.1 1034 r) := by
      intro q e
      obtain ⟨s2, b1, b2, b3, b4, b5⟩ := ih (i + 1) fu c s' hs2 ag (by omega) (by omega)
      refine ⟨s2, ?_, b2, b3, fun k k1 k2 k3 k4 => ?_, fun r hr => b5 r (fun k k1 k2 k3 k4 => hr k (by omega) k2 k3 k4)⟩
      · rw [e, b1, zct, if_neg (fun w => q (of_decide_eq_true w)), Nat.zero_add]
      · by_cases ek : k = i
        · subst ek; exact absurd ⟨k3, k4⟩ q
        · exact b4 k (by omega) k2 k3 k4
    have e0 : f88_4 n (fu + 1) (nI c) (nI i) s' = (if s.1 (1036 + 3 * i) 3 = 1 then f88_36 n (f88_4 n fu) n (nI c) (nI i) (1036 + 3 * i) (nI 0) (nI 0) s' else f88_4 n fu (nI c) (nI (i + 1)) s') := by
      rw [f88_4, a12', if_pos ((nltN (by omega) (by omega)).mpr (by omega)), if_pos z8, nxN (show i < 2 ^ 31 by omega), rt' i hi8, grd (gck8 hi8), ag (1036 + 3 * i) (by omega), e140]
      rfl
    by_cases w : s.1 (1036 + 3 * i) 3 = 1
    · have e1 := c_rank (n := n) (i := i) (r4 := f88_4 n fu) (x1 := nI c) (x2 := nI i) h88 a12' rt' ag (G 6 8) 0 n 0 (by omega) (by omega)
      rw [Nat.zero_add] at e1
      have er : zct (fun j => decide (s.1 (1036 + 3 * j) 3 = 1 ∧ (s.1 (1036 + 3 * j) 4 < s.1 (1036 + 3 * i) 4 ∨ (s.1 (1036 + 3 * j) 4 = s.1 (1036 + 3 * i) 4 ∧ s.1 (1036 + 3 * j) 11 < s.1 (1036 + 3 * i) 11)))) (G 6 8) 0 = rk (G 6 8) i s := rfl
      rw [er, a13'] at e1
      have rl : rk (G 6 8) i s ≤ 8 := by
        have := zct_m (P := fun j => decide (s.1 (1036 + 3 * j) 3 = 1 ∧ (s.1 (1036 + 3 * j) 4 < s.1 (1036 + 3 * i) 4 ∨ (s.1 (1036 + 3 * j) 4 = s.1 (1036 + 3 * i) 4 ∧ s.1 (1036 + 3 * j) 11 < s.1 (1036 + 3 * i) 11)))) (G 6 8) 0
        rw [er] at this
        omega
      rw [if_pos w] at e0
      by_cases q : rk (G 6 8) i s < P
      · have zr : zin? (nI (rk (G 6 8) i s)) 8 = true := (zinN (by omega)).mpr (by omega)
        rw [if_pos ((nltN (by omega) (by omega)).mpr q), if_pos zr, nxN (show rk (G 6 8) i s < 2 ^ 31 by omega), naddL, e140] at e1
        obtain ⟨s2, b1, b2, b3, b4, b5⟩ := ih (i + 1) fu (c + 1) (sI s' 1034 (rk (G 6 8) i s) (nI i)) hs2 (fun a ha => by rw [hIo ha]; exact ag a ha) (by omega) (by omega)
        refine ⟨s2, ?_, b2, b3, fun k k1 k2 k3 k4 => ?_, fun r hr => ?_⟩
        · rw [e0, e1, b1, zct, if_pos (decide_eq_true ⟨w, q⟩), show c + 1 + zct (fun q => decide (s.1 (1036 + 3 * q) 3 = 1 ∧ rk (G 6 8) q s < P)) m (i + 1) = c + (1 + zct (fun q => decide (s.1 (1036 + 3 * q) 3 = 1 ∧ rk (G 6 8) q s < P)) m (i + 1)) by omega]
        · by_cases ek : k = i
          · subst ek
            rw [b5 _ (fun k' l1 l2 l3 l4 e => by have := rk_inj h l2 k2 l3 k3 e; omega), hIe]
          · exact b4 k (by omega) k2 k3 k4
        · rw [b5 r (fun k k1 k2 k3 k4 => hr k (by omega) k2 k3 k4), hIk (fun e => hr i (Nat.le_refl _) (by omega) w q e.symm)]
      · rw [if_neg (fun u => q ((nltN (by omega) (by omega)).mp u)), e140] at e1
        exact skip (fun u => q u.2) (by rw [e0, e1])
    · rw [if_neg w] at e0
      exact skip (fun u => w u.1) e0
/-- task k is ready, and comes behind that of ov -/
def eR2 (ov : Option Nat) (k : Nat) (s : zσ) : Prop := rdy k s ∧ ∀ v, ov = some v → zRd v k s
def MnR (ov : Option Nat) (m : Nat) (s : zσ) : Option Nat → Prop
  | none => ∀ k, k < m → ¬ eR2 ov k s
  | some b => b < m ∧ eR2 ov b s ∧ ∀ k, k < m → eR2 ov k s → k = b ∨ zRd b k s
def finR (n r : Nat) (r4 : Int32 → Int32 → zσ → Option (Int32 × zσ)) (t : zσ) : Option Nat → Option (Int32 × zσ)
  | none => some (nI r, t)
  | some b => if zin? (nI r) 3 = true then r4 (nI r + 1) (nI b) (sI t 1248 (nx (nI r)) (nI b)) else none
theorem m_chs {ov : Option Nat} {r4 : Int32 → Int32 → zσ → Option (Int32 × zσ)} (h : RUN G F W B C x y s t) (hv : ∀ v, ov = some v → v < 8 ∧ rdy v s) : ∀ m j k (b : Option Nat), j + m = G 6 8 → m < k → MnR ov j s b → ∃ b', MnR ov (G 6 8) s b' ∧ f238_18 n r4 k (nI r) (enc ov) (enc b) (nI j) t = finR n r r4 t b' := by
  have h88 := (h.2.1.1.1 8 (by decide)).2.2
  intro m
  induction m with
  | zero =>
    intro j k b hj hk hb
    obtain ⟨k, rfl⟩ : ∃ k0, k = k0 + 1 := ⟨k - 1, by omega⟩
    have ej : j = G 6 8 := by omega
    subst ej
    refine ⟨b, hb, ?_⟩
    rw [f238_18, m_209 h, gy1, if_neg Int32.lt_irrefl]
    cases b with
    | none => rw [enc_n, if_pos rfl]; rfl
    | some b =>
      have b1 := hb.1
      rw [enc_s, if_neg (fun e => (neqM (show b < 2 ^ 31 by omega)).mp e)]
      rfl
  | succ m ih =>
    intro j k b hj hk hb
    obtain ⟨k, rfl⟩ : ∃ k0, k = k0 + 1 := ⟨k - 1, by omega⟩
    have hj8 : j < 8 := by omega
    have z8 : zin? (nI j) 8 = true := (zinN (by omega)).mpr hj8
    have nj := nxN (show j < 2 ^ 31 by omega)
    have est : t.1 1225 j = s.1 (1036 + 3 * j) 3 := by
      obtain ⟨-, ⟨a, k, -, b2, b3, -⟩, -⟩ := h.2.2.2.2.1 j hj8 (by omega)
      rw [b2, b3]
    have e92 : ∀ p, f238_92 n r4 (f238_18 n r4 k) (nI r) (enc ov) p (nI j) t = f238_18 n r4 k (nI r) (enc ov) p (nI (j + 1)) t := by
      intro p; unfold f238_92; rw [naddL]
    have e88 : f238_88 n r4 (f238_18 n r4 k) (nI r) (enc ov) (nI j) t = f238_18 n r4 k (nI r) (enc ov) (nI j) (nI (j + 1)) t := e92 _
    have keep : (eR2 ov j s → ∃ b0, b = some b0 ∧ zRd b0 j s) → ∃ b', MnR ov (G 6 8) s b' ∧ f238_18 n r4 k (nI r) (enc ov) (enc b) (nI (j + 1)) t = finR n r r4 t b' := by
      intro hw
      refine ih (j + 1) k b (by omega) (by omega) ?_
      cases b with
      | none =>
        intro q hq w
        by_cases e : q = j
        · subst e
          obtain ⟨b0, e0, -⟩ := hw w
          cases e0
        · exact hb q (by omega) w
      | some b0 =>
        obtain ⟨b1, b2, b4⟩ := hb
        refine ⟨by omega, b2, fun q hq w => ?_⟩
        by_cases e : q = j
        · subst e
          obtain ⟨b5, e0, e1⟩ := hw w
          cases e0
          exact Or.inr e1
        · exact b4 q (by omega) w
    have e47 : ∀ c : Int32, ¬ rdy j s → f238_47 n r4 (f238_18 n r4 k) (nI r) (enc ov) (enc b) (nI j) c t = f238_18 n r4 k (nI r) (enc ov) (enc b) (nI (j + 1)) t := by
      intro c w
      unfold f238_47
      have w' : ¬ s.1 (1036 + 3 * j) 3 = 1 := w
      rw [if_pos z8, nj, est, if_neg w', e92]
    -- one that may be taken
    have take : eR2 ov j s → ∃ b', MnR ov (G 6 8) s b' ∧ f238_42 n r4 (f238_18 n r4 k) (nI r) (enc ov) (enc b) (nI j) t = finR n r r4 t b' := by
      intro w
      have nov : ¬ nI j = enc ov := by
        intro e
        cases ov with
        | none => exact (neqM (show j < 2 ^ 31 by omega)).mp e
        | some v =>
          have v1 := (hv v rfl).1
          have := (neqN (show j < 2 ^ 31 by omega) (show v < 2 ^ 31 by omega)).mp e
          have o := w.2 v rfl
          rw [this] at o
          exact zR_irr o
      unfold f238_42 f238_47
      have w' : s.1 (1036 + 3 * j) 3 = 1 := w.1
      rw [if_pos z8, nj, est, if_pos w', if_neg (show ¬ (1 : Int32) = 0 by decide), if_neg nov]
      cases b with
      | none =>
        rw [enc_n, if_pos rfl, e88]
        refine ih (j + 1) k (some j) (by omega) (by omega) ⟨by omega, w, fun q hq w' => ?_⟩
        by_cases e : q = j
        · exact Or.inl e
        · exact absurd w' (hb q (by omega))
      | some b0 =>
        obtain ⟨b1, b2, b4⟩ := id hb
        have nb : ¬ nI b0 = -1 := fun e => (neqM (show b0 < 2 ^ 31 by omega)).mp e
        rw [enc_s, if_neg nb]
        rcases m_239 (n := n) h hj8 (show b0 < 8 by omega) w.1 b2.1 with ⟨o, o1⟩ | ⟨o, o1⟩
        · rw [o1, gy1, if_neg (by decide), e88]
          refine ih (j + 1) k (some j) (by omega) (by omega) ⟨by omega, w, fun q hq w' => ?_⟩
          by_cases e : q = j
          · exact Or.inl e
          · rcases b4 q (by omega) w' with e2 | e2
            · rw [e2]; exact Or.inr o
            · exact Or.inr (zR_tr o e2)
        · rw [o1, gy1, if_pos rfl, e92]
          refine keep (fun _ => ⟨b0, rfl, ?_⟩)
          rcases zR_tot h (show b0 < 8 by omega) hj8 b2.1 w.1 (by omega) with e | e
          · exact e
          · exact absurd e o
    rw [f238_18, m_209 h, gy1, if_pos ((nltN (by omega) (by omega)).mpr (by omega))]
    by_cases w : rdy j s
    · cases ov with
      | none =>
        rw [enc_n, if_pos rfl]
        exact take ⟨w, fun v e => by cases e⟩
      | some v =>
        obtain ⟨v1, v2⟩ := hv v rfl
        have nv : ¬ nI v = -1 := fun e => (neqM (show v < 2 ^ 31 by omega)).mp e
        rw [enc_s, if_neg nv]
        rcases m_239 (n := n) h v1 hj8 v2 w with ⟨o, o1⟩ | ⟨o, o1⟩
        · rw [o1, gy1, if_neg (by decide)]
          exact take ⟨w, fun v' e => by cases e; exact o⟩
        · rw [o1, gy1, if_pos rfl]
          unfold f238_47
          rw [enc_s] at e92
          have w' : s.1 (1036 + 3 * j) 3 = 1 := w
          rw [if_pos z8, nj, est, if_pos w', if_pos rfl, e92]
          exact keep (fun w' => absurd (w'.2 v rfl) o)
    · have kp := keep (fun w' => absurd w'.1 w)
      cases ov with
      | none =>
        rw [enc_n, if_pos rfl]
        unfold f238_42
        rw [enc_n] at e47
        rw [e47 _ w]
        exact kp
      | some v =>
        obtain ⟨v1, v2⟩ := hv v rfl
        have nv : ¬ nI v = -1 := fun e => (neqM (show v < 2 ^ 31 by omega)).mp e
        obtain ⟨c, c1, c2⟩ := m_239t (n := n) (t := t) v1 hj8
        rw [enc_s, if_neg nv, c1, gy1]
        rw [enc_s] at e47
        rcases c2 with c2 | c2
        · rw [c2, if_pos rfl, e47 _ w]; exact kp
        · rw [c2, if_neg (by decide)]
          unfold f238_42
          rw [e47 _ w]; exact kp
end ZCP
