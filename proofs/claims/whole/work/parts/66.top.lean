/-! what a task is at; the answers of task and bolt -/
section ZTP
variable {G W : Nat → Nat → Nat} {F : Nat → Nat → Nat → Nat} {B C x y n i : Nat} {s t : zσ}
/-- the reference's topmost frame -/
theorem m_top (hi : i < 8) (hD : t.1 1235 i = nI (F i 3 0)) (h0 : 0 < F i 3 0) (hl : F i 3 0 ≤ 108) : f214 n (nI i) t = some (nI (140 * i + (F i 3 0 - 1)), t) := by
  have z : zin? (nI i) 8 = true := (zinN (by omega)).mpr hi
  unfold f214
  rw [if_pos z, nxN (show i < 2 ^ 31 by omega), hD, nLmul, naddN]
  rw [show (nI (140 * i + F i 3 0) - 1 : Int32) = nI (140 * i + F i 3 0 - 1) from nsubL (k := 1) (by omega)]
  rw [show 140 * i + F i 3 0 - 1 = 140 * i + (F i 3 0 - 1) by omega]
/-- the statement at hand, for both -/
theorem r_top (hF : rF1 G F x i s t) (hi : i < 8) (h0 : 0 < F i 3 0) : F i 1 (F i 3 0 - 1) < G 0 0 ∧ F i 2 (F i 3 0 - 1) ≤ 8 ∧ s.1 (1036 + 3 * i) 10 = nI (F i 2 (F i 3 0 - 1)) ∧ s.1 (1036 + 3 * i + 1) (F i 2 (F i 3 0 - 1)) = nI (F i 1 (F i 3 0 - 1)) ∧ f214 n (nI i) t = some (nI (140 * i + (F i 3 0 - 1)), t) ∧ zin? (nI (140 * i + (F i 3 0 - 1))) 1120 = true ∧ t.1 1237 (140 * i + (F i 3 0 - 1)) = nI (F i 1 (F i 3 0 - 1)) ∧ G 1 (F i 1 (F i 3 0 - 1)) = F i 0 (F i 3 0 - 1) := by
  obtain ⟨h1, h2, h3, h4, h5, h6⟩ := hF
  obtain ⟨k1, q1, -⟩ := h6 (F i 3 0 - 1) (by omega)
  exact ⟨q1.1, k1.2.2.2.1, (h5 h0).2.1, q1.2.2.2.1 (Or.inl (by omega)), m_top hi h1 h0 h2, (zinN (by omega)).mpr (by omega), q1.2.2.1, q1.2.1⟩
theorem rT_a (hT : rT1 G W i s t) : ∃ a, a ≤ 4 ∧ s.1 (1036 + 3 * i) 3 = nI a ∧ t.1 1225 i = nI a := by
  obtain ⟨a, k, h0, h1, h2, -⟩ := hT
  exact ⟨a, h0, h1, h2⟩
theorem ea_task (hS : G 0 0 ≤ 200) (h : eR G W F B C x y s t) (a b : Int32) : eq2 (f137 n a b) (f269 n a b) s t := by
  obtain ⟨c9, c12, hy⟩ := eR_c h
  obtain ⟨h1, h2, h3⟩ := eR_n h 8 (by decide)
  obtain ⟨hr, hr2, hx, hR, -, -, -, hT, -⟩ := h
  by_cases ha : a < 0
  · exact ⟨-1, by simp [f137, hr, hx, grd c9, has_neg ha, gy1], by simp [f269, hr2, isT_neg ha, gy1]⟩
  · obtain ⟨k, hk, rfl⟩ := nI_of ha
    have e1 : f134 n x 8 (nI k) s = some (if k < G 6 8 then 1 else 0, s) := has_N h1 z8_9 hk (by omega)
    have e2 := isT_N (n := n) hy c12 h2 h3 hk
    by_cases hl : k < G 6 8
    · rw [if_pos hl] at e1 e2
      have k8 : k < 8 := by omega
      have z : zin? (nI k) 8 = true := (zinN hk).mpr (by omega)
      obtain ⟨⟨-, u6, u7, u8, u9⟩, ⟨a, kk, a4, t1, t2, -, -, t3, t4, t5, t6, -⟩, hF⟩ := hT k k8 (by omega)
      have hF2 := hF
      obtain ⟨g1, g2, g3, g4, g5, -⟩ := hF2
      have g3' : a = 0 ↔ F k 3 0 = 0 := by
        rw [← g3, t1]
        exact (neqL (k := 0) (by omega) (by decide)).symm
      have eC : f137 n (nI k) b s = yb1 (f138 n (1036 + 3 * k) b s) fun v6 u5 => some (v6, u5) := by
        simp [f137, hr, hx, grd c9, e1, gy1, z, nxN hk, hR.2.2.2.2.2.2 k k8, grd (gck8 k8)]
      unfold eq2
      simp only [eC, f269, hr2, e2, gy1, z, nxN hk, if_true, if_false, show ¬ (1 : Int32) = 0 by decide, f138]
      by_cases q0 : b = 0
      · exact ⟨nI a, by simp only [q0, if_true, t1, gy1], by simp only [q0, if_true, t2]⟩
      by_cases q1 : b = 1
      · by_cases a0 : a = 0
        · exact ⟨0, by simp [q1, t1, a0, nof0, gy1], by simp [q1, (t5 a0).2]⟩
        · obtain ⟨p, -, -, p1, p2⟩ := t6 a0
          have : ¬ nI a = 0 := fun q => a0 ((neqL (k := 0) (by omega) (by decide)).mp q)
          exact ⟨nI p, by simp [q1, t1, this, p1, gy1], by simp [q1, p2]⟩
      by_cases q2 : b = 2
      · by_cases a0 : a = 0
        · have d0 := g3'.mp a0
          exact ⟨-1, by simp [q2, t1, a0, nof0, gy1], by simp [q2, g1, d0, nof0]⟩
        · have d0 : 0 < F k 3 0 := by
            rcases Nat.eq_zero_or_pos (F k 3 0) with q | q
            · exact absurd (g3'.mpr q) a0
            · exact q
          have : ¬ nI a = 0 := fun q => a0 ((neqL (k := 0) (by omega) (by decide)).mp q)
          have : ¬ nI (F k 3 0) = 0 := fun q => by have := (neq0 (show F k 3 0 < 2 ^ 31 by omega)).mp q; omega
          obtain ⟨w1, w2, w3, w4, w5, w6, w7, -⟩ := r_top (n := n) hF k8 d0
          have w8 : zin? (nI (F k 2 (F k 3 0 - 1))) 9 = true := (zinN (by omega)).mpr (by omega)
          refine ⟨nI (F k 1 (F k 3 0 - 1)), ?_, ?_⟩
          · simp [q2, t1, *, nxN (show F k 2 (F k 3 0 - 1) < 2 ^ 31 by omega), gy1]
          · simp [q2, g1, *, nxN (show 140 * k + (F k 3 0 - 1) < 2 ^ 31 by omega), gy1]
      by_cases q3 : b = 3
      · exact ⟨nI kk, by simp [q3, t3, gy1], by simp [q3, t4]⟩
      by_cases q4 : b = 4
      · exact ⟨t.1 1230 k, by simp [q4, u6, gy1], by simp [q4]⟩
      by_cases q5 : b = 5
      · exact ⟨t.1 1231 k, by simp [q5, u7, gy1], by simp [q5]⟩
      by_cases q6 : b = 6
      · exact ⟨t.1 1232 k, by simp [q6, u8, gy1], by simp [q6]⟩
      by_cases q7 : b = 7
      · exact ⟨t.1 1233 k, by simp [q7, u9, gy1], by simp [q7]⟩
      by_cases q8 : b = 8
      · have e8 : s.1 (1036 + 3 * k) 10 = t.1 1234 k := by
          rcases Nat.eq_zero_or_pos (F k 3 0) with q | q
          · rw [(g4 q).1, (g4 q).2]
          · rw [(g5 q).2.1, (g5 q).2.2.1]
        exact ⟨t.1 1234 k, by simp [q8, e8, gy1], by simp [q8]⟩
      exact ⟨-2, by simp [q0, q1, q2, q3, q4, q5, q6, q7, q8, gy1], by simp [q0, q1, q2, q3, q4, q5, q6, q7, q8]⟩
    · rw [if_neg hl] at e1 e2
      exact ⟨-1, by simp [f137, hr, hx, grd c9, e1, gy1], by simp [f269, hr2, e2, gy1]⟩
/-- sums of eight -/
def zsm (f : Nat → Int32) : Nat → Nat → Int32 → Int32
  | 0, _, a => a
  | m + 1, k, a => zsm f m (k + 1) (a + f k)
theorem zsm_eq {f g : Nat → Int32} : ∀ m k a, (∀ i, k ≤ i → i < k + m → f i = g i) → zsm f m k a = zsm g m k a
  | 0, _, _, _ => rfl
  | m + 1, k, a, h => by
    unfold zsm
    rw [h k (Nat.le_refl _) (by omega), zsm_eq m (k + 1) _ (fun i p q => h i (by omega) (by omega))]
theorem allE_L {b : Nat} (hb : b < 4) : ∀ m k j (a : Int32), k + m = 8 → m < j → f110_4 n j (nI b) a (nI k) s = some (zsm (fun i => s.1 1017 (8 * b + i)) m k a, s) := by
  intro m
  induction m with
  | zero =>
    intro k j a hk hj
    obtain ⟨j, rfl⟩ : ∃ j0, j = j0 + 1 := ⟨j - 1, by omega⟩
    have e : k = 8 := by omega
    subst e
    rw [f110_4, if_neg (show ¬ nI 8 < 8 from Int32.lt_irrefl)]
    rfl
  | succ m ih =>
    intro k j a hk hj
    obtain ⟨j, rfl⟩ : ∃ j0, j = j0 + 1 := ⟨j - 1, by omega⟩
    have z : zin? (nI (8 * b + k)) 32 = true := (zinN (by omega)).mpr (by omega)
    rw [f110_4, if_pos (show nI k < 8 from nI_lt (b := 8) (by omega) (by decide)), nmulL, naddN, if_pos z, nxN (show 8 * b + k < 2 ^ 31 by omega), zlet, nI_1, ih (k + 1) j _ (by omega) (by omega)]
    rfl
theorem ent_L {b : Nat} (hb : b < 4) : ∀ m k j (a : Int32), k + m = 8 → m < j → f233_4 n j (nI b) a (nI k) t = some (zsm (fun i => t.1 1213 (8 * b + i)) m k a, t) := by
  intro m
  induction m with
  | zero =>
    intro k j a hk hj
    obtain ⟨j, rfl⟩ : ∃ j0, j = j0 + 1 := ⟨j - 1, by omega⟩
    have e : k = 8 := by omega
    subst e
    rw [f233_4, if_neg (show ¬ nI 8 < 8 from Int32.lt_irrefl)]
    rfl
  | succ m ih =>
    intro k j a hk hj
    obtain ⟨j, rfl⟩ : ∃ j0, j = j0 + 1 := ⟨j - 1, by omega⟩
    have z : zin? (nI (8 * b + k)) 32 = true := (zinN (by omega)).mpr (by omega)
    rw [f233_4, if_pos (show nI k < 8 from nI_lt (b := 8) (by omega) (by decide)), nLmul, naddN, if_pos z, nxN (show 8 * b + k < 2 ^ 31 by omega), zlet, nI_1, ih (k + 1) j _ (by omega) (by omega)]
    rfl
/-- how often a bolt is entered: one number for both -/
def bsum (b : Nat) (s : zσ) : Int32 := zsm (fun i => s.1 1017 (8 * b + i)) 8 0 0
theorem c_ent {b : Nat} (hn : 20 ≤ n) (hb : b < 4) : f110 n (nI b) s = some (bsum b s, s) := allE_L hb 8 0 n 0 (by decide) (by omega)
theorem m_ent {b : Nat} (hn : 20 ≤ n) (hb : b < 4) (hL : rL s t) : f233 n (nI b) t = some (bsum b s, t) := by
  have := ent_L (n := n) (t := t) hb 8 0 n 0 (by decide) (by omega)
  have e : bsum b s = zsm (fun i => t.1 1213 (8 * b + i)) 8 0 0 := zsm_eq 8 0 0 (fun i _ hi => hL.2 _ (by omega))
  rw [e]
  exact this
theorem ea_bolt (hn : 20 ≤ n) (h : eR G W F B C x y s t) (a b : Int32) : eq2 (f143 n a b) (f275 n a b) s t := by
  obtain ⟨c9, c12, hy⟩ := eR_c h
  obtain ⟨h1, h2, h3⟩ := eR_n h 3 (by decide)
  obtain ⟨g1, g2, g3⟩ := eR_n h 8 (by decide)
  have hm := eR_m h
  obtain ⟨hr, hr2, hx, -, -, ⟨-, -, -, -, -, hL, -⟩, -⟩ := h
  by_cases ha : a < 0
  · exact ⟨-1, by simp [f143, hr, hx, grd c9, has_neg ha, gy1], by simp [f275, hr2, ha]⟩
  · obtain ⟨k, hk, rfl⟩ := nI_of ha
    have e1 : f134 n x 3 (nI k) s = some (if k < G 6 3 then 1 else 0, s) := has_N h1 z3_9 hk (by omega)
    have l1 := nltN hk (show G 6 3 < 2 ^ 31 by omega)
    by_cases hl : k < G 6 3
    · have k4 : k < 4 := by omega
      have z4 : zin? (nI k) 4 = true := (zinN hk).mpr (by omega)
      obtain ⟨r1, -⟩ := hL.1 k k4
      have e8 := tasks_ok (n := n) hy c12
      unfold eq2
      simp only [f143, hr, hx, grd c9, e1, hl, gy1, z4, nxN hk, f275, hr2, ha, hy, grd c12, z3_9, x3_n, h2, l1, if_true, if_false, show ¬ (1 : Int32) = 0 by decide, c_ent hn k4, m_ent hn k4 hL, e8, g2]
      by_cases q0 : b = 0
      · exact ⟨s.1 1016 k, by simp [q0], by simp [q0, r1]⟩
      by_cases q1 : b = 1
      · exact ⟨bsum k s, by simp [q1], by simp [q1]⟩
      by_cases bn : b < 0
      · have w1 : ¬ (1 : Int32) < b := fun q => absurd (Int32.lt_trans bn (Int32.lt_trans (by decide : (0 : Int32) < 1) q)) Int32.lt_irrefl
        have w2 : b < 2 := Int32.lt_trans bn (by decide)
        exact ⟨-2, by simp [q0, q1, w1], by simp [q0, q1, w2]⟩
      · obtain ⟨j, hj, rfl⟩ := nI_of bn
        have j0 : j ≠ 0 := fun q => q0 (by rw [q]; rfl)
        have j1 : j ≠ 1 := fun q => q1 (by rw [q]; rfl)
        have w1 : (1 : Int32) < nI j := (nltN (a := 1) (by decide) hj).mpr (by omega)
        have w2 : ¬ nI j < 2 := fun q => by have := (nltN (b := 2) hj (by decide)).mp q; omega
        have e3 : nI j - 2 = nI (j - 2) := nsubL (k := 2) (by omega)
        have e4 : f134 n x 8 (nI (j - 2)) s = some (if j - 2 < G 6 8 then 1 else 0, s) := has_N g1 z8_9 (by omega) (by omega)
        have e5 : (2 : Int32) + nI (G 6 8) = nI (2 + G 6 8) := nLadd _ 2
        have l3 := nltN hj (show 2 + G 6 8 < 2 ^ 31 by omega)
        by_cases hl3 : j - 2 < G 6 8
        · have hl4 : j < 2 + G 6 8 := by omega
          have e6 : nI (8 * k + j) - 2 = nI (8 * k + j - 2) := nsubL (k := 2) (by omega)
          have z32 : zin? (nI (8 * k + j - 2)) 32 = true := (zinN (by omega)).mpr (by omega)
          refine ⟨s.1 1017 (8 * k + j - 2), ?_, ?_⟩
          · simp [q0, q1, w1, e3, e4, hl3, gy1, nmulL, naddN, e6, z32, nxN (show 8 * k + j - 2 < 2 ^ 31 by omega)]
          · simp [q0, q1, w2, e5, l3, hl4, nLmul, naddN, e6, z32, nxN (show 8 * k + j - 2 < 2 ^ 31 by omega), hL.2 (8 * k + j - 2) (by omega)]
        · have hl4 : ¬ j < 2 + G 6 8 := by omega
          exact ⟨-2, by simp [q0, q1, w1, e3, e4, hl3, gy1], by simp [q0, q1, w2, e5, l3, hl4]⟩
    · exact ⟨-1, by simp [f143, hr, hx, grd c9, e1, hl, gy1], by simp [f275, hr2, ha, hy, grd c12, z3_9, x3_n, h2, l1, hl]⟩
end ZTP
