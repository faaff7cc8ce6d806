/-! a run is laid out anew: both machines -/
section ZCW
variable {G W W2 : Nat → Nat → Nat} {F F2 : Nat → Nat → Nat → Nat} {B C B2 C2 x y n i j o k v p D r N P g z q : Nat} {s t s2 t2 s' t' : zσ} {a b : Nat → Nat}
theorem gFi {s : zσ} {a lo hi j : Nat} {v : Int32} (h : lo ≤ j ∧ j < hi) : (sF s a lo hi v).1 a j = v := by rw [gF, if_pos ⟨rfl, h⟩]
theorem c_77L : ∀ m k fu (s : zσ), k + m = 4 → m < fu → ∃ s2, f77_10 n fu (nI k) s = some s2 ∧ s2.2 = s.2 ∧ (∀ a, ¬ (1027 ≤ a ∧ a ≤ 1029) → s2.1 a = s.1 a) ∧ (∀ i, k ≤ i → i < 4 → s2.1 1027 i = 1 ∧ s2.1 1028 i = 0 ∧ s2.1 1029 i = 0) ∧ (∀ a i, i < k → s2.1 a i = s.1 a i) := by
  intro m
  induction m with
  | zero =>
    intro k fu s hk hf
    obtain ⟨fu, rfl⟩ : ∃ f0, fu = f0 + 1 := ⟨fu - 1, by omega⟩
    refine ⟨s, ?_, rfl, fun _ _ => rfl, fun i i1 i2 => by omega, fun _ _ _ => rfl⟩
    rw [f77_10, show k = 4 by omega, if_neg (by decide)]
  | succ m ih =>
    intro k fu s hk hf
    obtain ⟨fu, rfl⟩ : ∃ f0, fu = f0 + 1 := ⟨fu - 1, by omega⟩
    have k4 : k < 4 := by omega
    have z4 : zin? (nI k) 4 = true := (zinN (by omega)).mpr k4
    have l4 : nI k < 4 := (nltN (b := 4) (by omega) (by decide)).mpr k4
    have nk := nxN (show k < 2 ^ 31 by omega)
    obtain ⟨s2, e1, e2, e3, e4, e5⟩ := ih (k + 1) fu (sI (sI (sI s 1027 k 1) 1028 k 0) 1029 k 0) (by omega) (by omega)
    refine ⟨s2, ?_, e2, fun a ha => by rw [e3 a ha, hIo (by omega), hIo (by omega), hIo (by omega)], fun i i1 i2 => ?_, fun a i hi => by rw [e5 a i (by omega), hIx (by omega), hIx (by omega), hIx (by omega)]⟩
    · rw [f77_10, if_pos l4]
      simp only [if_pos z4, nk, gnar1, gnar0, zlet, naddL]
      exact e1
    · by_cases w : i = k
      · subst w
        rw [e5 1027 i (by omega), e5 1028 i (by omega), e5 1029 i (by omega)]
        refine ⟨?_, ?_, hIe⟩
        · rw [hIo (by decide), hIo (by decide), hIe]
        · rw [hIo (by decide), hIe]
      · exact e4 i (by omega) i2
/-- the cells of a task that is laid out anew -/
def tz (i : Nat) (s2 s : zσ) : Prop := s2.1 (1036 + 3 * i) 3 = 0 ∧ s2.1 (1036 + 3 * i) 5 = 0 ∧ s2.1 (1036 + 3 * i) 6 = 0 ∧ s2.1 (1036 + 3 * i) 7 = 0 ∧ s2.1 (1036 + 3 * i) 8 = 0 ∧ s2.1 (1036 + 3 * i) 9 = 0 ∧ s2.1 (1036 + 3 * i) 10 = 0 ∧ s2.1 (1036 + 3 * i) 0 = s.1 (1036 + 3 * i) 0
theorem c_90L : ∀ m k fu (s : zσ), (∀ i, i < 8 → s.2.2 1008 i = some (1036 + 3 * i)) → k + m = 8 → m < fu → ∃ s2, f74_90 n fu x (nI k) s = f74_113 n n x 0 s2 ∧ s2.2 = s.2 ∧ (∀ a, (∀ i, i < 8 → a ≠ 1036 + 3 * i) → s2.1 a = s.1 a) ∧ (∀ i, k ≤ i → i < 8 → tz i s2 s) ∧ (∀ i, i < k → s2.1 (1036 + 3 * i) = s.1 (1036 + 3 * i)) := by
  intro m
  induction m with
  | zero =>
    intro k fu s rt hk hf
    obtain ⟨fu, rfl⟩ : ∃ f0, fu = f0 + 1 := ⟨fu - 1, by omega⟩
    refine ⟨s, ?_, rfl, fun _ _ => rfl, fun i i1 i2 => by omega, fun _ _ => rfl⟩
    rw [f74_90, show k = 8 by omega, if_neg (by decide)]
  | succ m ih =>
    intro k fu s rt hk hf
    obtain ⟨fu, rfl⟩ : ∃ f0, fu = f0 + 1 := ⟨fu - 1, by omega⟩
    have k8 : k < 8 := by omega
    have z8 : zin? (nI k) 8 = true := (zinN (by omega)).mpr k8
    have l8 : nI k < 8 := (nltN (b := 8) (by omega) (by decide)).mpr k8
    obtain ⟨s2, e1, e2, e3, e4, e5⟩ := ih (k + 1) fu (sI (sI (sI (sI (sI (sI (sI s (1036 + 3 * k) 3 0) (1036 + 3 * k) 5 0) (1036 + 3 * k) 6 0) (1036 + 3 * k) 7 0) (1036 + 3 * k) 8 0) (1036 + 3 * k) 9 0) (1036 + 3 * k) 10 0) rt (by omega) (by omega)
    refine ⟨s2, ?_, e2, fun a ha => ?_, fun i i1 i2 => ?_, fun i hi => ?_⟩
    · rw [f74_90, if_pos l8, if_pos z8, nxN (show k < 2 ^ 31 by omega), rt k k8, grd (gck8 k8)]
      unfold f79
      simp only [zlet, gy0, naddL]
      exact e1
    · have := ha k k8
      rw [e3 a ha]
      simp (disch := omega) only [hIo]
    · by_cases w : i = k
      · subst w
        unfold tz
        rw [e5 i (by omega)]
        simp (disch := omega) only [hIk, hIe, and_self]
      · have := e4 i (by omega) i2
        unfold tz at this ⊢
        obtain ⟨b1, b2, b3, b4, b5, b6, b7, b8⟩ := this
        refine ⟨b1, b2, b3, b4, b5, b6, b7, ?_⟩
        rw [b8]
        simp (disch := omega) only [hIo]
    · rw [e5 i (by omega)]
      simp (disch := omega) only [hIo]
theorem c_74 {Pp : Int32} (hn : 1000 ≤ n) (hxx : x = 1060 ∨ x = 1096) (rt : ∀ i, i < 8 → s.2.2 1008 i = some (1036 + 3 * i)) : ∃ s2, f74 n x Pp s = f74_113 n n x 0 s2 ∧ s2.2.1 = s.2.1 ∧ (s2.2.2 1007 8 = some x ∧ s2.2.2 1007 9 = some (x + 19) ∧ s2.2.2 1007 10 = some (x + 29)) ∧ (∀ a, a ≠ 1007 → s2.2.2 a = s.2.2 a) ∧ (s2.1 1007 12 = s.1 (x + 11) 8 ∧ s2.1 1007 13 = Pp ∧ s2.1 1007 11 = 1 ∧ s2.1 1007 14 = 0 ∧ s2.1 1007 15 = 0) ∧ (∀ k, k < 8 → s2.1 1010 k = s.1 (x + 12) k) ∧ (∀ k, k < 4 → s2.1 1011 k = -1 ∧ s2.1 1015 k = s.1 (x + 13) k ∧ s2.1 1016 k = -1 ∧ s2.1 1019 k = 0 ∧ s2.1 1021 k = 0 ∧ s2.1 1027 k = 1 ∧ s2.1 1028 k = 0 ∧ s2.1 1029 k = 0) ∧ (∀ k, k < 32 → s2.1 1017 k = 0) ∧ (∀ k, k < 16 → s2.1 1023 k = -1) ∧ (s2.1 1030 2 = 0 ∧ s2.1 1030 3 = 0 ∧ s2.1 1030 5 = 0 ∧ s2.1 1030 6 = 0 ∧ s2.1 1030 7 = 0 ∧ s2.1 1030 8 = 0 ∧ s2.1 1030 9 = 0 ∧ s2.1 1030 4 = s.1 1030 4) ∧ (∀ i, i < 8 → tz i s2 s) ∧ (∀ a, a < 1007 ∨ a = 1009 ∨ a = 1034 ∨ 1060 ≤ a → s2.1 a = s.1 a) := by
  generalize hp : (sI (sI (sI (sI (sI (sR (sR (sR s 1007 8 (some x)) 1007 9 (some (x + 19))) 1007 10 (some (x + 29))) 1007 12 (s.1 (x + 11) 8)) 1007 13 Pp) 1007 11 1) 1007 14 0) 1007 15 0) = p
  have p21 : p.2.1 = s.2.1 := by rw [← hp]; rfl
  have p22 : p.2.2 1007 8 = some x ∧ p.2.2 1007 9 = some (x + 19) ∧ p.2.2 1007 10 = some (x + 29) := by
    rw [← hp]
    simp [sI, sR, va_up]
  have p23 : ∀ a, a ≠ 1007 → p.2.2 a = s.2.2 a := by
    intro a ha
    rw [← hp]
    simp [sI, sR, ha]
  have pc : p.1 1007 12 = s.1 (x + 11) 8 ∧ p.1 1007 13 = Pp ∧ p.1 1007 11 = 1 ∧ p.1 1007 14 = 0 ∧ p.1 1007 15 = 0 := by
    rw [← hp]
    simp (disch := decide) only [hIe, hIk, and_self]
  have pa : ∀ a, a ≠ 1007 → p.1 a = s.1 a := by
    intro a ha
    rw [← hp]
    simp (disch := exact ha) only [hIo]
    rfl
  generalize hq : (sF (sF (sF (sF (sC (sF (sC p (x + 12) 0 1010 0 8) 1011 0 4 (-1)) (x + 13) 0 1015 0 4) 1016 0 4 (-1)) 1017 0 32 0) 1019 0 4 0) 1021 0 4 0) = w
  have w2 : w.2 = p.2 := by rw [← hq]; rfl
  have wa : ∀ a, a ≠ 1010 → a ≠ 1011 → a ≠ 1015 → a ≠ 1016 → a ≠ 1017 → a ≠ 1019 → a ≠ 1021 → w.1 a = p.1 a := by
    intro a h1 h2 h3 h4 h5 h6 h7
    rw [← hq, hFo h7, hFo h6, hFo h5, hFo h4, hCo h3, hFo h2, hCo h1]
  have wv : ∀ k, k < 8 → w.1 1010 k = p.1 (x + 12) k := by
    intro k hk
    rw [← hq, hFo (by decide), hFo (by decide), hFo (by decide), hFo (by decide), hCo (by decide), hFo (by decide), gC, if_pos ⟨rfl, by omega, by omega⟩]
    rw [show 0 + (k - 0) = k by omega]
  have wk : ∀ k, k < 4 → w.1 1011 k = -1 ∧ w.1 1015 k = p.1 (x + 13) k ∧ w.1 1016 k = -1 ∧ w.1 1019 k = 0 ∧ w.1 1021 k = 0 := by
    intro k hk
    rw [← hq]
    refine ⟨?_, ?_, ?_, ?_, ?_⟩
    · rw [hFo (by decide), hFo (by decide), hFo (by decide), hFo (by decide), hCo (by decide), gFi (by omega)]
    · rw [hFo (by decide), hFo (by decide), hFo (by decide), hFo (by decide), gC, if_pos ⟨rfl, by omega, by omega⟩, hFo (by omega), hCo (by omega)]
      rw [show 0 + (k - 0) = k by omega]
    · rw [hFo (by decide), hFo (by decide), hFo (by decide), gFi (by omega)]
    · rw [hFo (by decide), gFi (by omega)]
    · rw [gFi (by omega)]
  have w17 : ∀ k, k < 32 → w.1 1017 k = 0 := by
    intro k hk
    rw [← hq, hFo (by decide), hFo (by decide), gFi (by omega)]
  obtain ⟨u, u1, u2, u3, u4, -⟩ := c_77L (n := n) 4 0 n (sF w 1023 0 16 (-1)) (by omega) (by omega)
  generalize hd : (sI (sI (sI (sI (sI (sI (sI u 1030 2 0) 1030 3 0) 1030 5 0) 1030 6 0) 1030 7 0) 1030 8 0) 1030 9 0) = d
  have d2 : d.2 = u.2 := by rw [← hd]; rfl
  have da : ∀ a, a ≠ 1030 → d.1 a = u.1 a := by
    intro a ha
    rw [← hd]
    simp (disch := exact ha) only [hIo]
  have dc : d.1 1030 2 = 0 ∧ d.1 1030 3 = 0 ∧ d.1 1030 5 = 0 ∧ d.1 1030 6 = 0 ∧ d.1 1030 7 = 0 ∧ d.1 1030 8 = 0 ∧ d.1 1030 9 = 0 ∧ d.1 1030 4 = u.1 1030 4 := by
    rw [← hd]
    simp (disch := decide) only [hIe, hIk, and_self]
  obtain ⟨e, e1, e2, e3, e4, -⟩ := c_90L (n := n) (x := x) 8 0 n d (fun i hi => by rw [d2, u2]; show w.2.2 1008 i = _; rw [w2, p23 1008 (by decide)]; exact rt i hi) (by omega) (by omega)
  have f74e : f74 n x Pp s = f74_90 n n x 0 d := by
    unfold f74
    rw [zlet, zlet, zlet, if_pos (by decide), zlet, zlet, zlet, zlet, zlet]
    have x8 : (sR (sR (sR s 1007 8 (some x)) 1007 9 (some (x + 19))) 1007 10 (some (x + 29))).1 (x + 11) (nx 8) = s.1 (x + 11) 8 := by rw [show nx (8 : Int32) = 8 by decide]; rfl
    rw [x8, hp]
    have e75 : f75 n (x + 12) p = some (sF (sC p (x + 12) 0 1010 0 8) 1011 0 4 (-1)) := by
      unfold f75
      rw [if_pos (by decide), zlet, zlet]
      rfl
    rw [e75, gy0]
    have e76 : f76 n (x + 13) (sF (sC p (x + 12) 0 1010 0 8) 1011 0 4 (-1)) = some w := by
      unfold f76
      rw [if_pos (by decide), zlet, zlet, zlet, zlet, zlet, ← hq]
      rfl
    rw [e76, gy0]
    unfold f77
    have u1' : f77_10 n n 0 (sF w 1023 0 16 (-1)) = some u := u1
    rw [zlet, u1', gy0]
    unfold f78
    rw [zlet, zlet, zlet, zlet, zlet, zlet, zlet, hd, gy0]
  have ca : ∀ a, a ≠ 1030 → ¬ (1027 ≤ a ∧ a ≤ 1029) → (∀ i, i < 8 → a ≠ 1036 + 3 * i) → e.1 a = (sF w 1023 0 16 (-1)).1 a := by
    intro a h1 h2 h3
    rw [e3 a h3, da a h1, u3 a h2]
  have cw : ∀ a, a ≠ 1030 → ¬ (1027 ≤ a ∧ a ≤ 1029) → (∀ i, i < 8 → a ≠ 1036 + 3 * i) → a ≠ 1023 → e.1 a = w.1 a := by
    intro a h1 h2 h3 h4
    rw [ca a h1 h2 h3, hFo h4]
  refine ⟨e, ?_, ?_, ?_, ?_, ?_, ?_, ?_, ?_, ?_, ?_, ?_, ?_⟩
  · rw [f74e]; exact e1
  · rw [e2, d2, u2]; show w.2.1 = _; rw [w2, p21]
  · rw [e2, d2, u2]; show w.2.2 1007 8 = _ ∧ w.2.2 1007 9 = _ ∧ w.2.2 1007 10 = _; rw [w2]; exact p22
  · intro a ha
    rw [e2, d2, u2]; show w.2.2 a = _; rw [w2]; exact p23 a ha
  · rw [cw 1007 (by decide) (by decide) (fun i _ => by omega) (by decide), wa 1007 (by decide) (by decide) (by decide) (by decide) (by decide) (by decide) (by decide)]
    exact pc
  · intro k hk
    rw [cw 1010 (by decide) (by decide) (fun i _ => by omega) (by decide), wv k hk, pa (x + 12) (by omega)]
  · intro k hk
    obtain ⟨g1, g2, g3, g4, g5⟩ := wk k hk
    obtain ⟨k1, k2, k3⟩ := u4 k (Nat.zero_le _) hk
    rw [cw 1011 (by decide) (by decide) (fun i _ => by omega) (by decide), cw 1015 (by decide) (by decide) (fun i _ => by omega) (by decide), cw 1016 (by decide) (by decide) (fun i _ => by omega) (by decide), cw 1019 (by decide) (by decide) (fun i _ => by omega) (by decide), cw 1021 (by decide) (by decide) (fun i _ => by omega) (by decide), e3 1027 (fun i _ => by omega), da 1027 (by decide), e3 1028 (fun i _ => by omega), da 1028 (by decide), e3 1029 (fun i _ => by omega), da 1029 (by decide)]
    exact ⟨g1, by rw [g2, pa (x + 13) (by omega)], g3, g4, g5, k1, k2, k3⟩
  · intro k hk
    rw [cw 1017 (by decide) (by decide) (fun i _ => by omega) (by decide)]
    exact w17 k hk
  · intro k hk
    rw [ca 1023 (by decide) (by decide) (fun i _ => by omega), gFi (by omega)]
  · rw [e3 1030 (fun i _ => by omega)]
    obtain ⟨b1, b2, b3, b4, b5, b6, b7, b8⟩ := dc
    refine ⟨b1, b2, b3, b4, b5, b6, b7, ?_⟩
    rw [b8, u3 1030 (by decide), hFo (by decide), wa 1030 (by decide) (by decide) (by decide) (by decide) (by decide) (by decide) (by decide), pa 1030 (by decide)]
  · intro i hi
    obtain ⟨b1, b2, b3, b4, b5, b6, b7, b8⟩ := e4 i (Nat.zero_le _) hi
    refine ⟨b1, b2, b3, b4, b5, b6, b7, ?_⟩
    rw [b8, da _ (by omega), u3 _ (by omega), hFo (by omega), wa _ (by omega) (by omega) (by omega) (by omega) (by omega) (by omega) (by omega), pa _ (by omega)]
  · intro a ha
    rw [cw a (by omega) (by omega) (fun i _ => by omega) (by omega), wa a (by omega) (by omega) (by omega) (by omega) (by omega) (by omega) (by omega), pa a (by omega)]
end ZCW
