/-! a run is laid out anew: the reference -/
section ZCX
variable {G W W2 : Nat → Nat → Nat} {F F2 : Nat → Nat → Nat → Nat} {B C B2 C2 x y n i j o k v p D r N P g z q : Nat} {s t s2 t2 s' t' : zσ} {a b : Nat → Nat}
/-- the reference's cells of a task that is laid out anew -/
def tzM (i : Nat) (t2 : zσ) : Prop := t2.1 1225 i = 0 ∧ t2.1 1226 i = 0 ∧ t2.1 1229 i = 0 ∧ t2.1 1230 i = 0 ∧ t2.1 1231 i = 0 ∧ t2.1 1232 i = 0 ∧ t2.1 1233 i = 0 ∧ t2.1 1234 i = 0 ∧ t2.1 1235 i = 0
theorem m_65L (hyy : y = 1134 ∨ y = 1170) : ∀ m k fu (t : zσ), t.2.2 1132 11 = some y → k + m = 8 → m < fu → ∃ t2, f208_65 n fu (nI k) t = f208_157 n n 0 t2 ∧ t2.2 = t.2 ∧ (∀ a, a ≠ 1207 → ¬ (1225 ≤ a ∧ a ≤ 1235) → t2.1 a = t.1 a) ∧ (∀ i, k ≤ i → i < 8 → t2.1 1207 i = t.1 (y + 5) i ∧ tzM i t2) ∧ (∀ a i, i < k → t2.1 a i = t.1 a i) := by
  intro m
  induction m with
  | zero =>
    intro k fu t r11 hk hf
    obtain ⟨fu, rfl⟩ : ∃ f0, fu = f0 + 1 := ⟨fu - 1, by omega⟩
    refine ⟨t, ?_, rfl, fun _ _ _ => rfl, fun i i1 i2 => by omega, fun _ _ _ => rfl⟩
    rw [f208_65, show k = 8 by omega, if_neg (by decide)]
  | succ m ih =>
    intro k fu t r11 hk hf
    obtain ⟨fu, rfl⟩ : ∃ f0, fu = f0 + 1 := ⟨fu - 1, by omega⟩
    have k8 : k < 8 := by omega
    have z8 : zin? (nI k) 8 = true := (zinN (by omega)).mpr k8
    have l8 : nI k < 8 := (nltN (b := 8) (by omega) (by decide)).mpr k8
    have nk := nxN (show k < 2 ^ 31 by omega)
    obtain ⟨t2, e1, e2, e3, e4, e5⟩ := ih (k + 1) fu (sI (sI (sI (sI (sI (sI (sI (sI (sI (sI t 1207 k (t.1 (y + 5) k)) 1225 k 0) 1226 k 0) 1229 k 0) 1230 k 0) 1231 k 0) 1232 k 0) 1233 k 0) 1234 k 0) 1235 k 0) r11 (by omega) (by omega)
    refine ⟨t2, ?_, e2, fun a h1 h2 => ?_, fun i i1 i2 => ?_, fun a i hi => ?_⟩
    · rw [f208_65, if_pos l8, r11, grd (gck12 hyy)]
      simp only [if_pos z8, nk, zlet, naddL]
      exact e1
    · rw [e3 a h1 h2]
      simp (disch := omega) only [hIo]
    · by_cases w : i = k
      · subst w
        unfold tzM
        simp only [e5 _ i (Nat.lt_succ_self _)]
        simp (disch := omega) only [hIo, hIe, and_self]
      · obtain ⟨b1, b2⟩ := e4 i (by omega) i2
        refine ⟨?_, b2⟩
        rw [b1]
        simp (disch := omega) only [hIo]
    · rw [e5 a i (by omega)]
      simp (disch := omega) only [hIx]
theorem m_157L (hyy : y = 1134 ∨ y = 1170) : ∀ m k fu (t : zσ), t.2.2 1132 11 = some y → k + m = 4 → m < fu → ∃ t2, f208_157 n fu (nI k) t = f208_234 n n 0 t2 ∧ t2.2 = t.2 ∧ (∀ a, a ≠ 1208 → a ≠ 1211 → a ≠ 1212 → ¬ (1214 ≤ a ∧ a ≤ 1216) → a ≠ 1218 → a ≠ 1220 → t2.1 a = t.1 a) ∧ (∀ i, k ≤ i → i < 4 → t2.1 1208 i = -1 ∧ t2.1 1211 i = t.1 (y + 6) i ∧ t2.1 1212 i = -1 ∧ t2.1 1214 i = 1 ∧ t2.1 1215 i = 0 ∧ t2.1 1216 i = 0 ∧ t2.1 1218 i = 0 ∧ t2.1 1220 i = 0) ∧ (∀ a i, i < k → t2.1 a i = t.1 a i) := by
  intro m
  induction m with
  | zero =>
    intro k fu t r11 hk hf
    obtain ⟨fu, rfl⟩ : ∃ f0, fu = f0 + 1 := ⟨fu - 1, by omega⟩
    refine ⟨t, ?_, rfl, fun _ _ _ _ _ _ _ => rfl, fun i i1 i2 => by omega, fun _ _ _ => rfl⟩
    rw [f208_157, show k = 4 by omega, if_neg (by decide)]
  | succ m ih =>
    intro k fu t r11 hk hf
    obtain ⟨fu, rfl⟩ : ∃ f0, fu = f0 + 1 := ⟨fu - 1, by omega⟩
    have k4 : k < 4 := by omega
    have z4 : zin? (nI k) 4 = true := (zinN (by omega)).mpr k4
    have l4 : nI k < 4 := (nltN (b := 4) (by omega) (by decide)).mpr k4
    have nk := nxN (show k < 2 ^ 31 by omega)
    obtain ⟨t2, e1, e2, e3, e4, e5⟩ := ih (k + 1) fu (sI (sI (sI (sI (sI (sI (sI (sI t 1208 k (-1)) 1211 k (t.1 (y + 6) k)) 1212 k (-1)) 1214 k 1) 1215 k 0) 1216 k 0) 1218 k 0) 1220 k 0) r11 (by omega) (by omega)
    refine ⟨t2, ?_, e2, fun a h1 h2 h3 h4 h5 h6 => ?_, fun i i1 i2 => ?_, fun a i hi => ?_⟩
    · rw [f208_157, if_pos l4]
      have r11' : (sI t 1208 (nx (nI k)) (-1)).2.2 1132 11 = some y := r11
      have y6 : (sI t 1208 (nx (nI k)) (-1)).1 (y + 6) = t.1 (y + 6) := hIo (by omega)
      simp only [if_pos z4, zlet, r11', grd (gck12 hyy), y6, gnar1, gnar0, naddL]
      rw [nk]
      exact e1
    · rw [e3 a h1 h2 h3 h4 h5 h6]
      simp (disch := omega) only [hIo]
    · by_cases w : i = k
      · subst w
        simp only [e5 _ i (Nat.lt_succ_self _)]
        simp (disch := omega) only [hIo, hIe, and_self]
      · obtain ⟨b1, b2, b3⟩ := e4 i (by omega) i2
        refine ⟨b1, ?_, b3⟩
        rw [b2]
        simp (disch := omega) only [hIo]
    · rw [e5 a i (by omega)]
      simp (disch := omega) only [hIx]
theorem m_234L : ∀ m k fu (t : zσ), k + m = 32 → m < fu → ∃ t2, f208_234 n fu (nI k) t = f208_255 n n 0 t2 ∧ t2.2 = t.2 ∧ (∀ a, a ≠ 1213 → t2.1 a = t.1 a) ∧ (∀ i, k ≤ i → i < 32 → t2.1 1213 i = 0) ∧ (∀ a i, i < k → t2.1 a i = t.1 a i) := by
  intro m
  induction m with
  | zero =>
    intro k fu t hk hf
    obtain ⟨fu, rfl⟩ : ∃ f0, fu = f0 + 1 := ⟨fu - 1, by omega⟩
    refine ⟨t, ?_, rfl, fun _ _ => rfl, fun i i1 i2 => by omega, fun _ _ _ => rfl⟩
    rw [f208_234, show k = 32 by omega, if_neg (by decide)]
  | succ m ih =>
    intro k fu t hk hf
    obtain ⟨fu, rfl⟩ : ∃ f0, fu = f0 + 1 := ⟨fu - 1, by omega⟩
    have z4 : zin? (nI k) 32 = true := (zinN (by omega)).mpr (by omega)
    have l4 : nI k < 32 := (nltN (b := 32) (by omega) (by decide)).mpr (by omega)
    obtain ⟨t2, e1, e2, e3, e4, e5⟩ := ih (k + 1) fu (sI t 1213 k 0) (by omega) (by omega)
    refine ⟨t2, ?_, e2, fun a h1 => by rw [e3 a h1, hIo h1], fun i i1 i2 => ?_, fun a i hi => by rw [e5 a i (by omega), hIx (by omega)]⟩
    · rw [f208_234, if_pos l4, if_pos z4, zlet, nxN (show k < 2 ^ 31 by omega), naddL, e1]
    · by_cases w : i = k
      · subst w
        rw [e5 _ i (Nat.lt_succ_self _), hIe]
      · exact e4 i (by omega) i2
theorem m_255L : ∀ m k fu (t : zσ), k + m = 16 → m < fu → ∃ t2, f208_255 n fu (nI k) t = f208_276 n n 0 t2 ∧ t2.2 = t.2 ∧ (∀ a, a ≠ 1240 → t2.1 a = t.1 a) ∧ (∀ i, k ≤ i → i < 16 → t2.1 1240 i = 0) ∧ (∀ a i, i < k → t2.1 a i = t.1 a i) := by
  intro m
  induction m with
  | zero =>
    intro k fu t hk hf
    obtain ⟨fu, rfl⟩ : ∃ f0, fu = f0 + 1 := ⟨fu - 1, by omega⟩
    refine ⟨t, ?_, rfl, fun _ _ => rfl, fun i i1 i2 => by omega, fun _ _ _ => rfl⟩
    rw [f208_255, show k = 16 by omega, if_neg (by decide)]
  | succ m ih =>
    intro k fu t hk hf
    obtain ⟨fu, rfl⟩ : ∃ f0, fu = f0 + 1 := ⟨fu - 1, by omega⟩
    have z4 : zin? (nI k) 16 = true := (zinN (by omega)).mpr (by omega)
    have l4 : nI k < 16 := (nltN (b := 16) (by omega) (by decide)).mpr (by omega)
    obtain ⟨t2, e1, e2, e3, e4, e5⟩ := ih (k + 1) fu (sI t 1240 k 0) (by omega) (by omega)
    refine ⟨t2, ?_, e2, fun a h1 => by rw [e3 a h1, hIo h1], fun i i1 i2 => ?_, fun a i hi => by rw [e5 a i (by omega), hIx (by omega)]⟩
    · rw [f208_255, if_pos l4, if_pos z4, zlet, gnar0, nxN (show k < 2 ^ 31 by omega), naddL, e1]
    · by_cases w : i = k
      · subst w
        rw [e5 _ i (Nat.lt_succ_self _), hIe]
      · exact e4 i (by omega) i2
theorem m_208 (hn : 1000 ≤ n) (hyy : y = 1134 ∨ y = 1170) (r11 : t.2.2 1132 11 = some y) (h13 : ¬ t.1 1132 13 = 0) : ∃ t2, f208 n t = f208_276 n n 0 t2 ∧ t2.2 = t.2 ∧ (t2.1 1132 17 = 1 ∧ t2.1 1132 19 = t.1 1132 18 ∧ t2.1 1132 20 = 0 ∧ t2.1 1132 21 = 0 ∧ t2.1 1132 22 = 0 ∧ t2.1 1132 23 = 0 ∧ t2.1 1132 24 = 0 ∧ t2.1 1132 25 = 0 ∧ t2.1 1132 26 = 0 ∧ t2.1 1132 27 = 0) ∧ (∀ k, k < 17 ∨ k = 18 ∨ 28 ≤ k → t2.1 1132 k = t.1 1132 k) ∧ (∀ i, i < 8 → t2.1 1207 i = t.1 (y + 5) i ∧ tzM i t2) ∧ (∀ i, i < 4 → t2.1 1208 i = -1 ∧ t2.1 1211 i = t.1 (y + 6) i ∧ t2.1 1212 i = -1 ∧ t2.1 1214 i = 1 ∧ t2.1 1215 i = 0 ∧ t2.1 1216 i = 0 ∧ t2.1 1218 i = 0 ∧ t2.1 1220 i = 0) ∧ (∀ i, i < 32 → t2.1 1213 i = 0) ∧ (∀ i, i < 16 → t2.1 1240 i = 0) ∧ (∀ a, a ≠ 1132 → a < 1207 ∨ 1245 ≤ a → t2.1 a = t.1 a) := by
  generalize hp : (sI (sI (sI (sI (sI (sI (sI (sI (sI (sI t 1132 17 1) 1132 19 (t.1 1132 18)) 1132 20 0) 1132 21 0) 1132 22 0) 1132 23 0) 1132 24 0) 1132 25 0) 1132 26 0) 1132 27 0) = p
  have p2 : p.2 = t.2 := by rw [← hp]; rfl
  have pa : ∀ a, a ≠ 1132 → p.1 a = t.1 a := by
    intro a ha
    rw [← hp]
    simp (disch := exact ha) only [hIo]
  have pc : p.1 1132 17 = 1 ∧ p.1 1132 19 = t.1 1132 18 ∧ p.1 1132 20 = 0 ∧ p.1 1132 21 = 0 ∧ p.1 1132 22 = 0 ∧ p.1 1132 23 = 0 ∧ p.1 1132 24 = 0 ∧ p.1 1132 25 = 0 ∧ p.1 1132 26 = 0 ∧ p.1 1132 27 = 0 := by
    rw [← hp]
    simp (disch := decide) only [hIe, hIk, and_self]
  have pk : ∀ k, k < 17 ∨ k = 18 ∨ 28 ≤ k → p.1 1132 k = t.1 1132 k := by
    intro k hk
    rw [← hp]
    simp (disch := omega) only [hIk]
  obtain ⟨ta, a1, a2, a3, a4, -⟩ := m_65L (n := n) hyy 8 0 n p (by rw [p2]; exact r11) (by omega) (by omega)
  obtain ⟨tb, b1, b2, b3, b4, -⟩ := m_157L (n := n) hyy 4 0 n ta (by rw [a2, p2]; exact r11) (by omega) (by omega)
  obtain ⟨tc, c1, c2, c3, c4, -⟩ := m_234L (n := n) 32 0 n tb (by omega) (by omega)
  obtain ⟨td, d1, d2, d3, d4, -⟩ := m_255L (n := n) 16 0 n tc (by omega) (by omega)
  have al : ∀ a, a ≠ 1240 → a ≠ 1213 → a ≠ 1208 → a ≠ 1211 → a ≠ 1212 → ¬ (1214 ≤ a ∧ a ≤ 1216) → a ≠ 1218 → a ≠ 1220 → td.1 a = ta.1 a := by
    intro a h1 h2 h3 h4 h5 h6 h7 h8
    rw [d3 a h1, c3 a h2, b3 a h3 h4 h5 h6 h7 h8]
  refine ⟨td, ?_, by rw [d2, c2, b2, a2, p2], ?_, fun k hk => ?_, fun i hi => ?_, fun i hi => ?_, fun i hi => ?_, fun i hi => d4 i (Nat.zero_le _) hi, fun a h1 h2 => ?_⟩
  · have h18 : (sI t 1132 17 1).1 1132 18 = t.1 1132 18 := hIk (by decide)
    unfold f208
    rw [if_neg h13, zlet, zlet, h18, zlet, zlet, zlet, zlet, zlet, zlet, zlet, zlet, hp]
    have a1' : f208_65 n n 0 p = f208_157 n n 0 ta := a1
    have b1' : f208_157 n n 0 ta = f208_234 n n 0 tb := b1
    have c1' : f208_234 n n 0 tb = f208_255 n n 0 tc := c1
    have d1' : f208_255 n n 0 tc = f208_276 n n 0 td := d1
    rw [a1', b1', c1', d1']
  · rw [al 1132 (by decide) (by decide) (by decide) (by decide) (by decide) (by decide) (by decide) (by decide), a3 1132 (by decide) (by decide)]
    exact pc
  · rw [al 1132 (by decide) (by decide) (by decide) (by decide) (by decide) (by decide) (by decide) (by decide), a3 1132 (by decide) (by decide)]
    exact pk k hk
  · obtain ⟨e1, e2⟩ := a4 i (Nat.zero_le _) hi
    refine ⟨?_, ?_⟩
    · rw [al 1207 (by decide) (by decide) (by decide) (by decide) (by decide) (by decide) (by decide) (by decide), e1, pa _ (by omega)]
    · unfold tzM at e2 ⊢
      simp (disch := decide) only [al]
      exact e2
  · obtain ⟨e1, e2, e3, e4, e5, e6, e7, e8⟩ := b4 i (Nat.zero_le _) hi
    have bl : ∀ a, a ≠ 1240 → a ≠ 1213 → td.1 a = tb.1 a := fun a h1 h2 => by rw [d3 a h1, c3 a h2]
    simp (disch := decide) only [bl]
    exact ⟨e1, by rw [e2, a3 _ (by omega) (by omega), pa _ (by omega)], e3, e4, e5, e6, e7, e8⟩
  · rw [d3 1213 (by decide)]
    exact c4 i (Nat.zero_le _) hi
  · rw [al a (by omega) (by omega) (by omega) (by omega) (by omega) (by omega) (by omega) (by omega), a3 a (by omega) (by omega), pa a h1]
end ZCX
