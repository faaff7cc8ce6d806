/-! the act ask, whole -/
section ZBK
variable {G W : Nat → Nat → Nat} {F : Nat → Nat → Nat → Nat} {B C x y n i D r : Nat} {s t : zσ}
theorem ask_c {X : Int32} {c : Nat → Nat} (cC : ∀ k (s : zσ), k < 4 → f109 n X (nI k) s = some (nI (c k), s)) : ∀ m q j (s : zσ), q + m = 4 → m < j → ∃ s2, f115_2 n j X (nI q) s = some s2 ∧ s2.2 = s.2 ∧ (∀ a, a ≠ 1015 → s2.1 a = s.1 a) ∧ (∀ k, q ≤ k → k < 4 → s2.1 1015 k = s.1 1015 k - nI (c k)) ∧ (∀ k, k < q → s2.1 1015 k = s.1 1015 k) := by
  intro m
  induction m with
  | zero =>
    intro q j s hq hj
    obtain ⟨j, rfl⟩ : ∃ j0, j = j0 + 1 := ⟨j - 1, by omega⟩
    refine ⟨s, ?_, rfl, fun _ _ => rfl, fun k h1 h2 => by omega, fun _ _ => rfl⟩
    rw [show q = 4 by omega, f115_2, if_neg (by decide)]
  | succ m ih =>
    intro q j s hq hj
    obtain ⟨j, rfl⟩ : ∃ j0, j = j0 + 1 := ⟨j - 1, by omega⟩
    have q4 : q < 4 := by omega
    have z4 : zin? (nI q) 4 = true := (zinN (by omega)).mpr q4
    have l4 : nI q < 4 := (nltN (b := 4) (by omega) (by decide)).mpr q4
    obtain ⟨s2, e1, e2, e3, e4, e5⟩ := ih (q + 1) j (sI s 1015 q (s.1 1015 q - nI (c q))) (by omega) (by omega)
    refine ⟨s2, ?_, e2, fun a ha => by rw [e3 a ha, hIo ha], fun k h1 h2 => ?_, fun k h1 => by rw [e5 k (by omega), hIk (by omega)]⟩
    · rw [f115_2, if_pos l4, if_pos z4, cC q s q4, gy1, if_pos z4, zlet, nxN (show q < 2 ^ 31 by omega), naddL, e1]
    · by_cases w : k = q
      · subst w
        rw [e5 k (by omega), hIe]
      · rw [e4 k (by omega) h2, hIk w]
theorem ask_m {R I : Int32} {c : Nat → Nat} : ∀ m q j (t : zσ), (∀ k (t' : zσ), k < 4 → t'.2 = t.2 → (∀ a, a ≠ 1211 → t'.1 a = t.1 a) → f232 n R (nI k) t' = some (nI (c k), t')) → q + m = 4 → m < j → ∃ t2, f256_97 n j I R 1 (nI q) t = f237 n I t2 ∧ t2.2 = t.2 ∧ (∀ a, a ≠ 1211 → t2.1 a = t.1 a) ∧ (∀ k, q ≤ k → k < 4 → t2.1 1211 k = t.1 1211 k - nI (c k)) ∧ (∀ k, k < q → t2.1 1211 k = t.1 1211 k) := by
  intro m
  induction m with
  | zero =>
    intro q j t cM hq hj
    obtain ⟨j, rfl⟩ : ∃ j0, j = j0 + 1 := ⟨j - 1, by omega⟩
    refine ⟨t, ?_, rfl, fun _ _ => rfl, fun k h1 h2 => by omega, fun _ _ => rfl⟩
    rw [show q = 4 by omega, f256_97, if_neg (by decide), gyS]
  | succ m ih =>
    intro q j t cM hq hj
    obtain ⟨j, rfl⟩ : ∃ j0, j = j0 + 1 := ⟨j - 1, by omega⟩
    have q4 : q < 4 := by omega
    have z4 : zin? (nI q) 4 = true := (zinN (by omega)).mpr q4
    have l4 : nI q < 4 := (nltN (b := 4) (by omega) (by decide)).mpr q4
    obtain ⟨t2, e1, e2, e3, e4, e5⟩ := ih (q + 1) j (sI t 1211 q (t.1 1211 q - nI (c q))) (fun k t' hk h1 h2 => cM k t' hk h1 (fun a ha => by rw [h2 a ha, hIo ha])) (by omega) (by omega)
    refine ⟨t2, ?_, e2, fun a ha => by rw [e3 a ha, hIo ha], fun k h1 h2 => ?_, fun k h1 => by rw [e5 k (by omega), hIk (by omega)]⟩
    · rw [f256_97, if_pos l4, if_pos z4, if_neg (by decide), cM q t q4 rfl (fun _ _ => rfl), gy1]
      unfold f256_133
      rw [if_pos z4, zlet, nxN (show q < 2 ^ 31 by omega), naddL, ← Int32.sub_eq_add_neg, e1]
    · by_cases w : k = q
      · subst w
        rw [e5 k (by omega), hIe]
      · rw [e4 k (by omega) h2, hIk w]
theorem ask_skip {I R : Int32} : ∀ m q j, q + m = 4 → m < j → f256_41 n j I R 1 (nI q) t = f256_97 n n I R 1 0 t := by
  intro m
  induction m with
  | zero =>
    intro q j hq hj
    obtain ⟨j, rfl⟩ : ∃ j0, j = j0 + 1 := ⟨j - 1, by omega⟩
    rw [show q = 4 by omega, f256_41, if_neg (by decide)]
  | succ m ih =>
    intro q j hq hj
    obtain ⟨j, rfl⟩ : ∃ j0, j = j0 + 1 := ⟨j - 1, by omega⟩
    rw [f256_41, if_pos (show nI q < 4 from (nltN (b := 4) (by omega) (by decide)).mpr (by omega)), if_neg (by decide)]
    unfold f256_88
    rw [naddL]
    exact ih (q + 1) j (by omega) (by omega)
theorem act_10 (hb : bR B C n) (hC : C < 799999999) (h : aH G F W B C x y i D r s t) (h69 : t.1 1132 69 = 0) (hk : G 10 r = 10) (ha : s.1 (1036 + 3 * i) 3 = 1) : pR G B C x y (cP n i r s) (mP n i r t) := by
  have hr := aH_r h
  obtain ⟨hxx, hyy, r9, r11, w3, w4, w6, zr, z8, hi⟩ := aH_k h
  obtain ⟨k9, k6, k0⟩ := gck9 hxx
  have k12 := gck12 hyy
  have e15 : t.1 (y + 15) r = 10 := by rw [w4, hk]; rfl
  obtain ⟨⟨l, hl1, hl2, e21, e20m, hlu, -⟩, hE⟩ := tO_10 hk w6
  have c1 := work_0 hb.1 h hE
  have h2 : aH G F W B C x y i D r (sI s 1007 16 0) t := aH_sc scC_160 scM_rf h
  generalize hs2 : sI s 1007 16 0 = s2 at c1 h2
  have o1 : scC s s2 := by rw [← hs2]; exact scC_160
  have r9' : s2.2.2 1007 9 = some (x + 19) := by rw [o1.1]; exact r9
  have e20 : s2.1 (x + 19 + 1) r = 159 := by
    have : s2.1 (x + 20) r = nI 159 := zk_lit hk rfl (aH_k h2).2.2.2.2.1
    exact this
  have e242 : f242 n (nI i) (nI r) t = yb0 (f256 n (nI i) (nI r) t) fun u1 => some u1 := by
    unfold f242
    rw [r11, grd k12, if_pos zr, nxN (show r < 2 ^ 31 by omega), if_neg (show ¬ _ = (1 : Int32) by rw [e15]; decide), if_neg (show ¬ _ = (2 : Int32) by rw [e15]; decide), if_neg (show ¬ _ = (3 : Int32) by rw [e15]; decide), if_neg (show ¬ _ = (4 : Int32) by rw [e15]; decide), if_neg (show ¬ _ = (5 : Int32) by rw [e15]; decide), if_neg (show ¬ _ = (6 : Int32) by rw [e15]; decide), if_neg (show ¬ _ = (7 : Int32) by rw [e15]; decide), if_neg (show ¬ _ = (8 : Int32) by rw [e15]; decide), if_neg (show ¬ _ = (9 : Int32) by rw [e15]; decide), if_pos e15]
    rfl
  have nr := nxN (show r < 2 ^ 31 by omega)
  have hm := h.1.1.2.1.1.2.1
  have e21' : s2.1 (x + 19 + 2) r = nI (zpk l) := by
    have : s2.1 (x + 21) r = s.1 (x + 21) r := by rw [scC_a o1 (by omega) (by omega) (by omega) (by omega)]
    rw [← e21]
    exact this
  have n10 : 10 ≤ n := by have := hb.1; omega
  have lv4 : ∀ v, v ∈ l → v < 4 := fun v hv => by have := hl2 v hv; omega
  have lv8 : ∀ v, v ∈ l → v < 8 := fun v hv => by have := lv4 v hv; omega
  have cC : ∀ k (s : zσ), k < 4 → f109 n (nI (zpk l)) (nI k) s = some (nI (zcn l k), s) := fun k s hk => c_109 (by omega) hl1 lv4 hk
  have cM : ∀ k (t' : zσ), k < 4 → t'.2 = t.2 → (∀ a, a ≠ 1211 → t'.1 a = t.1 a) → f232 n (nI r) (nI k) t' = some (nI (zcn l k), t') := fun k t' hk h1 h2 => m_232 n10 hyy (by rw [h1]; exact r11) hr hl1 lv8 hk (by rw [h2 _ (by omega)]; exact e20m) (fun q hq => by
    obtain ⟨u, u1, u2, u3⟩ := hlu q hq
    exact ⟨u, u1, by rw [h2 _ (by omega)]; exact u2, by rw [h2 _ (by omega)]; exact u3⟩)
  have ha2 : s2.1 (1036 + 3 * i) 3 = 1 := by
    rw [scC_a o1 (by omega) (by omega) (by omega) (by omega)]
    exact ha
  have h3 := req_has hb h2 ha2
  have e97 : f97 n (1036 + 3 * i) (nI r) s2 = yb1 (f107 n (1036 + 3 * i) (nI r) (sI (sI s2 1007 15 (nI (W 4 0 + 1))) (1036 + 3 * i) 12 (nI (W 4 0 + 1)))) fun v4 u3 => if v4 = (0 : Int32) then some ((-1 : Int32), sI u3 (1036 + 3 * i) 3 3) else yb0 (f114 n (1036 + 3 * i) (nI r) u3) fun u5 => some ((0 : Int32), u5) := by
    unfold f97
    rw [r9', grd k6, if_pos zr, zlet, if_pos z0_64, zlet, grd k6, if_pos zr, nxN (show r < 2 ^ 31 by omega), x0_n, if_neg (show ¬ _ = (1 : Int32) by rw [e20]; decide), if_neg (show ¬ _ = (91 : Int32) by rw [e20]; decide), if_neg (show ¬ _ = (149 : Int32) by rw [e20]; decide), if_neg (show ¬ _ = (150 : Int32) by rw [e20]; decide), if_neg (show ¬ _ = (151 : Int32) by rw [e20]; decide), if_neg (show ¬ _ = (152 : Int32) by rw [e20]; decide), if_neg (show ¬ _ = (154 : Int32) by rw [e20]; decide), if_neg (show ¬ _ = (155 : Int32) by rw [e20]; decide), if_neg (show ¬ _ = (156 : Int32) by rw [e20]; decide), if_neg (show ¬ _ = (157 : Int32) by rw [e20]; decide), if_neg (show ¬ _ = (158 : Int32) by rw [e20]; decide), if_pos e20]
    unfold f97_406
    rw [gyT, c_106 h2]
  have eS : ∀ k, (sI (sI s2 1007 15 (nI (W 4 0 + 1))) (1036 + 3 * i) 12 (nI (W 4 0 + 1))).1 (x + 19 + k) = s2.1 (x + 19 + k) := fun k => by simp (disch := omega) only [hIo]
  generalize hs3 : (sI (sI s2 1007 15 (nI (W 4 0 + 1))) (1036 + 3 * i) 12 (nI (W 4 0 + 1))) = s3 at e97 h3 eS
  have r93 : s3.2.2 1007 9 = some (x + 19) := by rw [← hs3]; exact r9'
  obtain ⟨⟨d1, d2, d3, d4, d5, d6, d7, d8, d9, d10, d11⟩, dE⟩ := aH_d h3
  have e20s : s3.1 (x + 19 + 1) r = 159 := by rw [eS]; exact e20
  have e21s : s3.1 (x + 19 + 2) r = nI (zpk l) := by rw [eS]; exact e21'
  have e107 : f107 n (1036 + 3 * i) (nI r) s3 = yb1 (f108_2 n n (nI (zpk l)) (nI 0) s3) fun v5 u4 => if v5 = 0 ∨ v5 = 1 then some (v5, u4) else none := by
    unfold f107
    rw [r93, grd k6, if_pos zr, zlet, grd k6, if_pos zr, nr, if_pos e20s, e21s]
    rfl
  have e114 : f114 n (1036 + 3 * i) (nI r) s3 = f115_2 n n (nI (zpk l)) (nI 0) s3 := by
    unfold f114
    rw [r93, grd k6, if_pos zr, zlet, grd k6, if_pos zr, nr, if_pos e20s, e21s, gyS]
    rfl
  have M1 : f242 n (nI i) (nI r) t = yb1 (f231_4 n n (nI r) 1 (nI 0) t) fun v2 u1 => if v2 = (0 : Int32) then f257 n (nI i) u1 else f256_41 n n (nI i) (nI r) 1 (nI 0) u1 := by
    rw [e242, gyS]
    unfold f256
    rw [r11, grd k12, if_pos zr, nr, if_pos e15]
    unfold f256_19 f256_38
    rw [if_neg (by decide)]
    simp only [gyS]
    rfl
  rcases ask_1 (n := n) (s := s3) (c := zcn l) (fun k _ => by have := zcn_le l k; omega) cC (fun k hk => cM k t hk rfl (fun _ _ => rfl)) (fun k hk4 => by
    obtain ⟨v, u, g1, g2, g3, g4, g5⟩ := d5 k hk4
    refine ⟨v, u, g1, g2, g3, g4, fun q => g5 ?_⟩
    rcases Nat.lt_or_ge k (G 6 2) with w | w
    · exact w
    · exact absurd (zcn_0 l k (fun v hv => by have := hl2 v hv; omega)) q) 4 0 n n (by decide) (by omega) (by omega) with ⟨f1, f2⟩ | ⟨f1, f2, f3⟩
  · refine req_wait (Or.inl hk) hb h2 ha2 h69 c1 ?_ (by rw [M1, f2, gy1, if_pos rfl])
    rw [e97, e107, f1, gy1, if_pos (by decide), gy1, if_pos rfl, hs3]
  · obtain ⟨s4, a1, a2, a3, a4, -⟩ := ask_c cC 4 0 n s3 (by decide) (by omega)
    obtain ⟨t4, b1, b2, b3, b4, -⟩ := ask_m (n := n) (R := nI r) (I := nI i) (c := zcn l) 4 0 n t cM (by decide) (by omega)
    have h4 : aH G (Ft F i D r) (Wt W) B (C + 1) x y i D r s4 t4 := by
      refine aH_glob h3 ⟨a2, fun a ha => a3 a (by omega)⟩ ⟨b2, fun a q1 q2 q3 => b3 a (by omega), by rw [b3 1132 (by decide)]⟩ ⟨?_, ?_, ?_, ?_, ?_, ?_, ?_, ?_, ?_, ?_, ?_⟩ ?_
      · unfold rA at d1 ⊢
        simp (disch := omega) only [a3, b3]
        exact d1
      · unfold rB at d2 ⊢
        simp (disch := omega) only [a3, b3]
        exact d2
      · unfold rV at d3 ⊢
        simp (disch := omega) only [a3, b3]
        exact d3
      · unfold rW at d4 ⊢
        simp (disch := omega) only [a3, b3]
        exact d4
      · intro k hk4
        obtain ⟨v, u, g1, g2, g3, g4, g5⟩ := d5 k hk4
        have b9 := f3 k (by omega) hk4 v g3 g1
        rw [a4 k (by omega) hk4, b4 k (by omega) hk4, g3, g4]
        by_cases w : k < G 6 2
        · have := g5 w
          subst this
          rw [nsubN b9]
          exact ⟨v - zcn l k, v - zcn l k, by omega, by omega, rfl, rfl, fun _ => rfl⟩
        · have z0 : zcn l k = 0 := zcn_0 l k (fun v hv => by have := hl2 v hv; omega)
          rw [z0, nsubN (Nat.zero_le _), nsubN (Nat.zero_le _)]
          exact ⟨v, u, g1, g2, rfl, rfl, fun q => absurd q w⟩
      · unfold rL at d6 ⊢
        simp (disch := omega) only [a3, b3]
        exact d6
      · unfold rI at d7 ⊢
        simp (disch := omega) only [a3, b3]
        exact d7
      · unfold rO at d8 ⊢
        simp (disch := omega) only [a3, b3]
        exact d8
      · unfold rP at d9 ⊢
        simp (disch := omega) only [a3, b3]
        exact d9
      · unfold rH at d10 ⊢
        simp (disch := omega) only [a3, b3]
        exact d10
      · unfold rC at d11 ⊢
        simp (disch := omega) only [a3, b3]
        exact d11
      · unfold rE at dE ⊢
        simp (disch := omega) only [a3, b3]
        exact dE
    refine on_3 (Nat.le_refl _) hb hC h4 (by rw [b3 1132 (by decide)]; exact h69) c1 (by rw [e97, e107, f1, gy1, if_pos (by decide), gy1, if_neg (by decide), e114, a1]; rfl) ?_
    rw [M1, f2, gy1, if_neg (by decide), ask_skip 4 0 n (by decide) (by omega)]
    exact b1
end ZBK
