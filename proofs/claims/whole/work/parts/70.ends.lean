/-! a task ends -/
section ZEN
variable {G W : Nat → Nat → Nat} {F : Nat → Nat → Nat → Nat} {B C x y n i : Nat} {s t : zσ}
/-- but for the depth, the procs under way, those that are over -/
def sP (i : Nat) (t t2 : zσ) : Prop := t2.2 = t.2 ∧ ∀ a k, ¬ (a = 1235 ∧ k = i) → ¬ (a = 1234 ∧ k = i) → ¬ (a = 1132 ∧ k = 27) → t2.1 a k = t.1 a k
theorem sP_rf : sP i t t := ⟨rfl, fun _ _ _ _ _ => rfl⟩
theorem sP_tr {t2 t3 : zσ} (h1 : sP i t t2) (h2 : sP i t2 t3) : sP i t t3 := ⟨h2.1.trans h1.1, fun a k b c d => (h2.2 a k b c d).trans (h1.2 a k b c d)⟩
theorem rK_P {d : Nat} {t2 : zσ} (h : sP i t t2) (hk : rK G F i d t) : rK G F i d t2 := by
  unfold rK at hk ⊢
  rw [h.2 1236 _ (by omega) (by omega) (by omega), h.2 1238 _ (by omega) (by omega) (by omega)]
  exact hk
/-- the level of frame d - 1, 0 with none -/
def zL (F : Nat → Nat → Nat → Nat) (i : Nat) : Nat → Nat
  | 0 => 0
  | d + 1 => F i 2 d
/-- pop -/
theorem m_pop {D : Nat} (hi : i < 8) (hD : t.1 1235 i = nI (D + 1)) (hl : D + 1 ≤ 108) (hK : rK G F i D t) (hp : t.1 1234 i = nI (F i 2 D)) : ∃ t2, f215 n (nI i) t = some (t.1 1238 (140 * i + D), t2) ∧ sP i t t2 ∧ t2.1 1235 i = nI D ∧ t2.1 1234 i = nI (zL F i D) ∧ t2.1 1132 27 = t.1 1132 27 + nI (F i 2 D) - nI (zL F i D) := by
  have z8 : zin? (nI i) 8 = true := (zinN (by omega)).mpr hi
  have z11 : zin? (nI (140 * i + D)) 1120 = true := (zinN (by omega)).mpr (by omega)
  have e1 : nI (D + 1) - 1 = nI D := nI_pred D
  obtain ⟨-, -, -, l8, -, hK⟩ := hK
  have hc : (t.1 1238 (140 * i + D) = 0 ∧ F i 2 D = zL F i D) ∨ (t.1 1238 (140 * i + D) = 1 ∧ F i 2 D = zL F i D + 1) := by
    rcases hK with ⟨h0, h1, -, -, h2⟩ | ⟨h0, -, h1, h2, -⟩ | ⟨h0, -, h1, h2, -⟩
    · subst h0
      exact Or.inl ⟨h2, h1⟩
    · obtain ⟨d, rfl⟩ : ∃ d, D = d + 1 := ⟨D - 1, by omega⟩
      exact Or.inr ⟨h2, h1⟩
    · obtain ⟨d, rfl⟩ : ∃ d, D = d + 1 := ⟨D - 1, by omega⟩
      exact Or.inl ⟨h2, h1⟩
  rcases hc with ⟨q, ql⟩ | ⟨q, ql⟩
  · refine ⟨sI t 1235 i (nI D), ?_, ⟨rfl, fun a k h1 h2 h3 => hIx h1⟩, hIe, ?_, ?_⟩
    · simp (disch := omega) only [f215, zlet, ↓reduceIte, hIe, hIk, hIo, z8, z11, nxN, hD, e1, nLmul, naddN, q, true_or]
    · rw [hIo (by decide), hp, ql]
    · rw [hIo (by decide), ql, Int32.add_sub_cancel]
  · refine ⟨sI (sI (sI t 1235 i (nI D)) 1234 i (nI (zL F i D))) 1132 27 (t.1 1132 27 + 1), ?_, ⟨rfl, fun a k h1 h2 h3 => by rw [hIx h3, hIx h2, hIx h1]⟩, ?_, ?_, ?_⟩
    · have e2 : nI (F i 2 D) - 1 = nI (zL F i D) := by rw [ql]; exact nI_pred _
      have q1 : ¬ (1 : Int32) = 0 := by decide
      simp (disch := omega) only [f215, zlet, ↓reduceIte, hIe, hIk, hIo, z8, z11, nxN, hD, e1, nLmul, naddN, q, q1, hp, e2, or_true]
    · rw [hIo (by decide), hIo (by decide), hIe]
    · rw [hIo (by decide), hIe]
    · rw [hIe, ql, ← nI_1, Int32.add_comm (nI (zL F i D)) 1, ← Int32.add_assoc, Int32.add_sub_cancel]
/-- all frames go -/
theorem m_pops {g : Int32 → zσ → Option zσ} (hi : i < 8) : ∀ (D : Nat) (t : zσ) (m : Nat), t.1 1235 i = nI D → D ≤ 108 → (∀ d, d < D → rK G F i d t) → t.1 1234 i = nI (zL F i D) → ∃ t2, f219_0 n g (D + m) (nI i) t = f219_0 n g m (nI i) t2 ∧ sP i t t2 ∧ t2.1 1235 i = 0 ∧ t2.1 1234 i = 0 ∧ t2.1 1132 27 = t.1 1132 27 + nI (zL F i D) := by
  intro D
  induction D with
  | zero =>
    intro t m h1 h2 h3 h4
    exact ⟨t, by rw [Nat.zero_add], sP_rf, h1, h4, (Int32.add_zero _).symm⟩
  | succ D ih =>
    intro t m h1 h2 h3 h4
    obtain ⟨t1, e1, o1, d1, p1, v1⟩ := m_pop (n := n) hi h1 h2 (h3 D (by omega)) h4
    obtain ⟨t2, e2, o2, d2, p2, v2⟩ := ih t1 m d1 (by omega) (fun d hd => rK_P o1 (h3 d (by omega))) p1
    have z8 : zin? (nI i) 8 = true := (zinN (by omega)).mpr hi
    have q : (0 : Int32) < nI (D + 1) := (nltN (a := 0) (by decide) (by omega)).mpr (by omega)
    refine ⟨t2, ?_, sP_tr o1 o2, d2, p2, ?_⟩
    · rw [show D + 1 + m = (D + m) + 1 by omega, f219_0, if_pos z8, nxN (show i < 2 ^ 31 by omega), h1, if_pos q, e1, gy1, e2]
    · rw [v2, v1]
      show t.1 1132 27 + nI (zL F i (D + 1)) - nI (zL F i D) + nI (zL F i D) = _
      rw [Int32.sub_add_cancel]
theorem sP_oM {t2 : zσ} (h : sP i t t2) : oM i t t2 := ⟨by rw [h.1], fun _ _ => by rw [h.1], fun a h1 h2 h3 => funext fun k => h.2 a k (by omega) (by omega) (by omega), fun a j h1 h2 h3 => h.2 a j (by omega) (by omega) (by omega), fun a j d h1 h2 h3 h4 => h.2 a _ (by omega) (by omega) (by omega), fun j k h1 h2 => h.2 1239 _ (by omega) (by omega) (by omega), fun a h1 h2 => funext fun k => h.2 a k (by omega) (by omega) (by omega), h.2 1132 69 (by omega) (by omega) (by omega)⟩
/-- no frame -/
def Fz (F : Nat → Nat → Nat → Nat) (i : Nat) : Nat → Nat → Nat → Nat := fun j a d => if j = i ∧ a = 3 then 0 else F j a d
set_option maxHeartbeats 2000000 in
theorem ends_ok {k e m D : Nat} (hn : 200 ≤ n) (he : e = i ∨ e = 8) (h : RUNx e G F W B C x y s t) (hi8 : i < G 6 8) (hC : C < 900000000) (hta : rTa i s t) (hk : k ≤ 3) (k1 : s.1 (1036 + 3 * i) 5 = nI k) (k2 : t.1 1229 i = nI k) (hD : t.1 1235 i = nI D) (hDl : D ≤ 108) (hK : ∀ d, d < D → rK G F i d t) (l1 : s.1 (1036 + 3 * i) 10 = nI (zL F i D)) (l2 : t.1 1234 i = nI (zL F i D)) (hne : G 9 (G 14 i) ≠ 0) : ∃ s2 t2 F2 W2 C2, f126 n (1036 + 3 * i) s = some s2 ∧ f219 n (m + 1) (nI i) t = some t2 ∧ RUN G F2 W2 B C2 x y s2 t2 ∧ C2 ≤ C + 1 ∧ oC i s s2 ∧ oM i t t2 ∧ ¬ (s2.1 (1036 + 3 * i) 3 = 3 ∨ s2.1 (1036 + 3 * i) 3 = 4) := by
  obtain ⟨⟨hx, hy, ⟨r3, -⟩, r4, r5, r6, r7⟩, ⟨hN, -⟩, ⟨hA, hB', hV, -, -, -, -, -, -, hH, hCC⟩, hE, hT, hU⟩ := id h
  have h8 := (hN.1 8 (by decide)).2.2
  have hi : i < 8 := by omega
  have z8 : zin? (nI i) 8 = true := (zinN (by omega)).mpr hi
  have z16 : zin? (nI (2 * i + 1)) 16 = true := (zinN (by omega)).mpr (by omega)
  obtain ⟨t1, e1, o1, d1, p1, v1⟩ := m_pops (n := n) (g := f219 n m) (G := G) (F := F) hi D t (n - D) hD hDl hK l2
  rw [show D + (n - D) = n by omega] at e1
  obtain ⟨j, hj⟩ : ∃ j, n - D = j + 1 := ⟨n - D - 1, by omega⟩
  have q00 : ¬ (0 : Int32) < 0 := by decide
  have x1225 : t1.1 1225 i = t.1 1225 i := o1.2 _ _ (by omega) (by omega) (by omega)
  have x1229 : t1.1 1229 i = nI k := by rw [o1.2 _ _ (by omega) (by omega) (by omega)]; exact k2
  have x1232 : t1.1 1232 i = t.1 1232 i := o1.2 _ _ (by omega) (by omega) (by omega)
  -- the states behind the resets
  have hsA : ∃ sA, sA = sI (sI (sI (sI (sI s (1036 + 3 * i) 8 (s.1 (1036 + 3 * i) 8 + 1)) 1030 9 (s.1 1030 9 + nI (zL F i D))) (1036 + 3 * i) 10 0) (1036 + 3 * i) 3 0) 1023 (2 * i + 1) (-1) := ⟨_, rfl⟩
  obtain ⟨sA, hsA⟩ := hsA
  have htA : ∃ tA, tA = sI (sI (sI (sI t1 1225 i 0) 1226 i 0) 1232 i (t.1 1232 i + 1)) 1240 (2 * i + 1) 0 := ⟨_, rfl⟩
  obtain ⟨tA, htA⟩ := htA
  have eC : f126 n (1036 + 3 * i) s = (if (0 : Int32) < nI k then yb0 (f80 n (1036 + 3 * i) (sI sA (1036 + 3 * i) 5 (nI k - 1))) fun u7 => some u7 else some sA) := by
    subst hsA
    simp (disch := omega) only [f126, zlet, ↓reduceIte, hIe, hIk, hIo, hta.1, l1, nLmul, naddL, z16, nxN, k1]
  have eM : f219 n (m + 1) (nI i) t = (if (0 : Int32) < nI k then yb0 (f211 n (f219 n m) (nI i) (sI tA 1229 i (nI k - 1))) fun u6 => some u6 else some tA) := by
    rw [f219, f219b, e1, hj, f219_0]
    subst htA
    simp (disch := omega) only [zlet, ↓reduceIte, hIe, hIk, hIo, z8, nxN, d1, q00, nLmul, naddL, z16, gnar0, x1229, x1232]
  have ocA : oC i s sA := by
    subst hsA
    exact ⟨rfl, fun a _ _ _ _ _ _ _ _ => by simp (disch := omega) only [hIo]⟩
  have omA : oM i t tA := by
    refine oM_tr (sP_oM o1) ?_
    subst htA
    exact ⟨rfl, fun _ _ => rfl, fun a _ _ _ => by simp (disch := omega) only [hIo], fun a j _ _ _ => by simp (disch := omega) only [hIx], fun a j d _ _ _ _ => by simp (disch := omega) only [hIx], fun j k _ _ => by simp (disch := omega) only [hIx], fun a _ _ => by simp (disch := omega) only [hIo], by simp (disch := omega) only [hIo, hIk]⟩
  have tA' : ∀ a k, a ≤ 1239 ∨ a = 1248 → ¬ (a = 1225 ∧ k = i) → ¬ (a = 1226 ∧ k = i) → ¬ (a = 1232 ∧ k = i) → ¬ (a = 1235 ∧ k = i) → ¬ (a = 1234 ∧ k = i) → ¬ (a = 1132 ∧ k = 27) → tA.1 a k = t.1 a k := by
    intro a k h0 h1 h2 h3 h4 h5 h6
    subst htA
    simp (disch := omega) only [hIx]
    exact o1.2 a k h4 h5 h6
  have hxA : RUNx i G (Fz F i) W B C x y sA tA := by
    refine RUNx_go hi he h ocA omA (fun j _ hj => ⟨fun a d => by simp [Fz, hj], fun _ _ => rfl, Nat.le_refl _, Nat.le_refl _⟩) ?_ ?_ ?_ ?_ ?_ ?_
    · obtain ⟨a1, ⟨p, a2, a3, a4, a5⟩, a6, a7, a8, a9, a10, a11⟩ := hA
      have v9 : tA.1 1132 27 = t.1 1132 27 + nI (zL F i D) := by
        subst htA
        simp (disch := omega) only [hIo]
        exact v1
      have y48 : ∀ k, tA.1 1248 k = t.1 1248 k := fun k => tA' _ _ (by decide) (by omega) (by omega) (by omega) (by omega) (by omega) (by omega)
      have y32 : ∀ k, k ≠ 27 → tA.1 1132 k = t.1 1132 k := fun k hk => tA' _ _ (by decide) (by omega) (by omega) (by omega) (by omega) (by omega) (by omega)
      unfold rA
      rw [y32 17 (by decide), y32 13 (by decide), y32 1 (by decide), y32 2 (by decide), y32 18 (by decide)]
      simp only [y48]
      rw [tA' 1132 20 (by decide) (by omega) (by omega) (by omega) (by omega) (by omega) (by omega), tA' 1132 19 (by decide) (by omega) (by omega) (by omega) (by omega) (by omega) (by omega), tA' 1132 21 (by decide) (by omega) (by omega) (by omega) (by omega) (by omega) (by omega), tA' 1132 22 (by decide) (by omega) (by omega) (by omega) (by omega) (by omega) (by omega), tA' 1132 25 (by decide) (by omega) (by omega) (by omega) (by omega) (by omega) (by omega), tA' 1132 26 (by decide) (by omega) (by omega) (by omega) (by omega) (by omega) (by omega), v9]
      subst hsA
      simp (disch := omega) only [hIo, hIk, hIe]
      exact ⟨a1, ⟨p, a2, a3, a4, a5⟩, a6, a7, a8, a9, by rw [a10], a11⟩
    · have y1 : tA.1 1221 = t.1 1221 := omA.2.2.1 _ (by decide) (by decide) (by decide)
      have y2 : ∀ j, tA.1 1222 j = t.1 1222 j := fun j => tA' _ _ (by decide) (by omega) (by omega) (by omega) (by omega) (by omega) (by omega)
      have y3 : ∀ j, tA.1 1223 j = t.1 1223 j := fun j => tA' _ _ (by decide) (by omega) (by omega) (by omega) (by omega) (by omega) (by omega)
      have y4 : ∀ j, tA.1 1224 j = t.1 1224 j := fun j => tA' _ _ (by decide) (by omega) (by omega) (by omega) (by omega) (by omega) (by omega)
      unfold rB at hB' ⊢
      simp only [y1, y2, y3, y4, tA' 1132 23 (by decide) (by omega) (by omega) (by omega) (by omega) (by omega) (by omega), tA' 1132 24 (by decide) (by omega) (by omega) (by omega) (by omega) (by omega) (by omega)]
      subst hsA
      simp (disch := omega) only [hIo, hIk]
      exact hB'
    · have y1 : ∀ j, tA.1 1207 j = t.1 1207 j := fun j => tA' _ _ (by decide) (by omega) (by omega) (by omega) (by omega) (by omega) (by omega)
      unfold rV at hV ⊢
      simp only [y1]
      subst hsA
      simp (disch := omega) only [hIo, hIk]
      exact hV
    · refine ⟨?_, Nat.le_trans (zNH_le (fun q hq e => ?_)) hH.2.1, hH.2.2⟩
      rotate_left
      · by_cases w : q = 2 * i + 1
        · subst hsA
          rw [w]
          exact hIe
        · subst hsA
          simp (disch := omega) only [hIo, hIk]
          exact e
      intro q hq
      have y1 : tA.1 1241 = t.1 1241 := omA.2.2.2.2.2.2.1 _ (by decide) (by decide)
      have y2 : tA.1 1242 = t.1 1242 := omA.2.2.2.2.2.2.1 _ (by decide) (by decide)
      have y3 : tA.1 1243 = t.1 1243 := omA.2.2.2.2.2.2.1 _ (by decide) (by decide)
      have y4 : tA.1 1244 = t.1 1244 := omA.2.2.2.2.2.2.1 _ (by decide) (by decide)
      rw [y1, y2, y3, y4]
      by_cases e : q = 2 * i + 1
      · left
        subst hsA htA e
        exact ⟨hIe, hIe⟩
      · have y5 : tA.1 1240 q = t.1 1240 q := by
          subst htA
          simp (disch := omega) only [hIx]
          exact o1.2 _ _ (by omega) (by omega) (by omega)
        have c1 : sA.1 1023 q = s.1 1023 q := by
          subst hsA
          simp (disch := omega) only [hIo, hIk]
        rw [y5, c1]
        subst hsA
        simp (disch := omega) only [hIo, hIk]
        exact hH.1 q hq
    · obtain ⟨a1, a2, a3⟩ := hCC
      refine ⟨?_, ?_, a3⟩
      · subst hsA
        simp (disch := omega) only [hIo, hIk]
        exact a1
      · rw [tA' 1132 30 (by decide) (by omega) (by omega) (by omega) (by omega) (by omega) (by omega)]
        exact a2
    · obtain ⟨a1, a2, a3⟩ := hE
      unfold rE
      rw [tA' 1132 29 (by decide) (by omega) (by omega) (by omega) (by omega) (by omega) (by omega), tA' 1132 28 (by decide) (by omega) (by omega) (by omega) (by omega) (by omega) (by omega), tA' 1132 30 (by decide) (by omega) (by omega) (by omega) (by omega) (by omega) (by omega)]
      subst hsA
      simp (disch := omega) only [hIo, hIk]
      exact ⟨a1, a2, a3⟩
  have htaA : rTa i sA tA := by
    obtain ⟨a1, a2, a3, a4, a5⟩ := hta
    have w : tA.1 1232 i = t.1 1232 i + 1 := by
      subst htA
      simp (disch := omega) only [hIo, hIe]
    unfold rTa
    rw [w, tA' 1230 i (by decide) (by omega) (by omega) (by omega) (by omega) (by omega) (by omega), tA' 1231 i (by decide) (by omega) (by omega) (by omega) (by omega) (by omega) (by omega), tA' 1233 i (by decide) (by omega) (by omega) (by omega) (by omega) (by omega) (by omega)]
    subst hsA
    simp (disch := omega) only [hIo, hIk, hIe]
    exact ⟨a1, a2, a3, by rw [a4], a5⟩
  have d35 : tA.1 1235 i = 0 := by
    subst htA
    simp (disch := omega) only [hIo]
    exact d1
  have d34 : tA.1 1234 i = 0 := by
    subst htA
    simp (disch := omega) only [hIo]
    exact p1
  by_cases k0 : k = 0
  · have q : ¬ (0 : Int32) < nI k := fun e => by have := (nltN (a := 0) (by decide) (show k < 2 ^ 31 by omega)).mp e; omega
    rw [if_neg q] at eC eM
    have h30 : sA.1 (1036 + 3 * i) 3 = 0 := by
      subst hsA
      simp (disch := omega) only [hIo, hIe]
    refine ⟨sA, tA, Fz F i, W, C, eC, eM, RUN_of hxA ⟨htaA, ?_, ?_⟩ (fun j hj hji => ?_), by omega, ocA, omA, by rw [h30]; decide⟩
    · refine ⟨0, 0, by decide, h30, ?_, fun _ => rfl, by decide, ?_, ?_, fun _ => ⟨rfl, ?_⟩, fun q => absurd rfl q, by omega, by omega⟩
      · subst htA
        simp (disch := omega) only [hIo, hIe]; rfl
      · subst hsA
        simp (disch := omega) only [hIo, hIk]
        rw [k1, k0]
      · rw [tA' 1229 i (by decide) (by omega) (by omega) (by omega) (by omega) (by omega) (by omega), k2, k0]
      · subst htA
        simp (disch := omega) only [hIo, hIe]
    · have f3 : ∀ d, Fz F i i 3 d = 0 := fun d => by simp [Fz]
      unfold rF1
      simp only [f3]
      refine ⟨d35, by omega, ⟨fun _ => trivial, fun _ => h30⟩, fun _ => ⟨?_, d34⟩, by omega, by omega⟩
      subst hsA
      simp (disch := omega) only [hIo, hIk, hIe]
    · constructor
      · refine fun _ => ⟨fun h1 => ?_, fun h1 => ?_⟩
        · rw [h30] at h1; exact absurd h1 (by decide)
        · rw [h30] at h1; rcases h1 with q | q <;> exact absurd q (by decide)
      · refine fun _ => ⟨fun _ h1 => ?_, fun _ h1 => ?_⟩
        · rw [h30] at h1; exact absurd h1 (by decide)
        · rw [h30] at h1; rcases h1 with q | q <;> exact absurd q (by decide)
  · have q : (0 : Int32) < nI k := (nltN (a := 0) (by decide) (by omega)).mpr (by omega)
    rw [if_pos q] at eC eM
    have ek : nI k - 1 = nI (k - 1) := nsubL (k := 1) (by omega)
    rw [ek] at eC eM
    have ocB : oC i sA (sI sA (1036 + 3 * i) 5 (nI (k - 1))) := ⟨rfl, fun a _ _ _ _ _ _ _ _ => by simp (disch := omega) only [hIo]⟩
    have omB : oM i tA (sI tA 1229 i (nI (k - 1))) := ⟨rfl, fun _ _ => rfl, fun a _ _ _ => by simp (disch := omega) only [hIo], fun a j _ _ _ => by simp (disch := omega) only [hIx], fun a j d _ _ _ _ => by simp (disch := omega) only [hIx], fun j k _ _ => by simp (disch := omega) only [hIx], fun a _ _ => by simp (disch := omega) only [hIo], by simp (disch := omega) only [hIo, hIk]⟩
    have hxB : RUNx i G (Fz F i) W B C x y (sI sA (1036 + 3 * i) 5 (nI (k - 1))) (sI tA 1229 i (nI (k - 1))) := by
      obtain ⟨-, -, ⟨b1, b2, b3, -, -, -, -, -, -, b10, b11⟩, b12, -, -⟩ := id hxA
      refine RUNx_go hi (Or.inl rfl) hxA ocB omB (fun j _ hj => ⟨fun a d => rfl, fun _ _ => rfl, Nat.le_refl _, Nat.le_refl _⟩) ?_ ?_ ?_ ?_ ?_ ?_
      · unfold rA at b1 ⊢
        simp (disch := omega) only [hIo]
        exact b1
      · unfold rB at b2 ⊢
        simp (disch := omega) only [hIo]
        exact b2
      · unfold rV at b3 ⊢
        simp (disch := omega) only [hIo]
        exact b3
      · unfold rH at b10 ⊢
        simp (disch := omega) only [hIo]
        exact b10
      · unfold rC at b11 ⊢
        simp (disch := omega) only [hIo]
        exact b11
      · unfold rE at b12 ⊢
        simp (disch := omega) only [hIo]
        exact b12
    have htaB : rTa i (sI sA (1036 + 3 * i) 5 (nI (k - 1))) (sI tA 1229 i (nI (k - 1))) := by
      unfold rTa at htaA ⊢
      simp (disch := omega) only [hIo, hIk]
      exact htaA
    obtain ⟨s2, t2, r, f1, f2, f3, f4, f5, f6, -⟩ := begin_ok (n := n) (g := f219 n m) (k := k - 1) (by omega) (Or.inl rfl) hxB hi8 hC htaB (by omega) hIe hIe (by rw [hIo (by decide)]; exact d35) (by rw [hIo (by decide)]; exact d34) hne
    exact ⟨s2, t2, _, _, C + 1, by rw [eC, f1]; rfl, by rw [eM, f2]; rfl, f3, by omega, oC_tr (oC_tr ocA ocB) f4, oM_tr (oM_tr omA omB) f5, by rw [f6]; decide⟩
end ZEN
