/-! one that waits and can have it, has it -/
section ZCC
variable {G W : Nat → Nat → Nat} {F : Nat → Nat → Nat → Nat} {B C x y n i j v : Nat} {s t : zσ}
theorem have_m {R I : Int32} {c : Nat → Nat} : ∀ m q j (t : zσ), (∀ k (t' : zσ), k < 4 → t'.2 = t.2 → (∀ a, a ≠ 1211 → t'.1 a = t.1 a) → f232 n R (nI k) t' = some (nI (c k), t')) → q + m = 4 → m < j → ∃ t2, f235_91 n j I R (nI q) t = f235_178 n I t2 ∧ t2.2 = t.2 ∧ (∀ a, a ≠ 1211 → t2.1 a = t.1 a) ∧ (∀ k, q ≤ k → k < 4 → t2.1 1211 k = t.1 1211 k - nI (c k)) ∧ (∀ k, k < q → t2.1 1211 k = t.1 1211 k) := by
  intro m
  induction m with
  | zero =>
    intro q j t cM hq hj
    obtain ⟨j, rfl⟩ : ∃ j0, j = j0 + 1 := ⟨j - 1, by omega⟩
    refine ⟨t, ?_, rfl, fun _ _ => rfl, fun k h1 h2 => by omega, fun _ _ => rfl⟩
    rw [show q = 4 by omega, f235_91, if_neg (by decide)]
  | succ m ih =>
    intro q j t cM hq hj
    obtain ⟨j, rfl⟩ : ∃ j0, j = j0 + 1 := ⟨j - 1, by omega⟩
    have q4 : q < 4 := by omega
    have z4 : zin? (nI q) 4 = true := (zinN (by omega)).mpr q4
    have l4 : nI q < 4 := (nltN (b := 4) (by omega) (by decide)).mpr q4
    obtain ⟨t2, e1, e2, e3, e4, e5⟩ := ih (q + 1) j (sI t 1211 q (t.1 1211 q - nI (c q))) (fun k t' hk h1 h2 => cM k t' hk h1 (fun a ha => by rw [h2 a ha, hIo ha])) (by omega) (by omega)
    refine ⟨t2, ?_, e2, fun a ha => by rw [e3 a ha, hIo ha], fun k h1 h2 => ?_, fun k h1 => by rw [e5 k (by omega), hIk (by omega)]⟩
    · rw [f235_91, if_pos l4, if_pos z4, cM q t q4 rfl (fun _ _ => rfl), gy1, if_pos z4, zlet, nxN (show q < 2 ^ 31 by omega), naddL, e1]
    · by_cases w : k = q
      · subst w
        rw [e5 k (by omega), hIe]
      · rw [e4 k (by omega) h2, hIk w]
theorem have_ok (hn : 1000 ≤ n) (h : RUN G F W B C x y s t) (hj : j < 8) (w : wT j s) (hc : canP n x j s) : ∃ s4 t4, f114 n (1036 + 3 * j) (nI (zsq j s)) s = some s4 ∧ f235 n (nI j) t = f235_178 n (nI j) t4 ∧ RUN G F W B C x y s4 t4 ∧ qC s s4 ∧ qM t t4 := by
  obtain ⟨q, d, a1, a2, a3, a4, a5, a6, a7, a8, a9⟩ := at_w (n := n) h hj w
  have h88 := (h.2.1.1.1 8 (by decide)).2.2
  obtain ⟨⟨hxx, hyy, -, r9, -, r11, -⟩, ⟨hN, -, -, hS⟩, ⟨d1, d2, d3, d4, d5, d6, d7, d8, d9, d10, d11⟩, dE, -⟩ := id h
  obtain ⟨k9, k6, k0⟩ := gck9 hxx
  have k12 := gck12 hyy
  have zq : zin? (nI q) 200 = true := (zinN (by omega)).mpr a2
  have zd : zin? (nI d) 1120 = true := (zinN (by omega)).mpr a6
  have nq := nxN (show q < 2 ^ 31 by omega)
  obtain ⟨⟨-, -, s20, s15⟩, -, hO⟩ := hS q a1
  have hm := hN.2.1
  have i0 : s.1 (1036 + 3 * j) 0 = nI j := (h.2.2.2.2.1 j hj (by omega)).1.1
  have e20 : s.1 (x + 19 + 1) q = s.1 (x + 20) q := rfl
  have e21 : s.1 (x + 19 + 2) q = s.1 (x + 21) q := rfl
  have e22 : s.1 (x + 19 + 3) q = s.1 (x + 22) q := rfl
  have eM0 : f235 n (nI j) t = (if t.1 (y + 17) q = -1 then f235_45 n (nI j) (nI q) (-1) t else if zin? (t.1 (y + 17) q) 1400 = true then f235_45 n (nI j) (nI q) (t.1 (y + 33) (nx (t.1 (y + 17) q))) t else none) := by
    unfold f235
    rw [a5, gy1, if_pos zd, zlet, nxN (show d < 2 ^ 31 by omega), a7, r11, grd k12, if_pos zq, nq, grd k12, grd k12, if_pos zq]
  unfold canP at hc
  rw [a8] at hc ⊢
  rcases a9 with k | k | k | k
  · -- ask
    obtain ⟨⟨l, hl1, hl2, e21l, e20m, hlu, e17⟩, -⟩ := tO_10 k hO
    have s20' : s.1 (x + 20) q = 159 := by rw [s20, k]; rfl
    have s15' : t.1 (y + 15) q = 10 := by rw [s15, k]; rfl
    have hc1 : f108 n (s.1 (x + 21) q) s = some (1, s) := by
      rcases hc with ⟨-, c⟩ | ⟨c, -⟩ | ⟨c, -⟩ | ⟨c, -⟩
      · exact c
      · rw [s20'] at c; exact absurd c (by decide)
      · rw [s20'] at c; exact absurd c (by decide)
      · rw [s20'] at c; exact absurd c (by decide)
    have eC : f114 n (1036 + 3 * j) (nI q) s = f115_2 n n (nI (zpk l)) (nI 0) s := by
      unfold f114
      rw [r9, grd k6, if_pos zq, zlet, grd k6, if_pos zq, nq, e20, e21, if_pos s20', e21l, gyS]
      rfl
    have eM : f235 n (nI j) t = f235_91 n n (nI j) (nI q) (nI 0) t := by
      rw [eM0, if_pos e17]
      unfold f235_45
      rw [r11, grd k12, if_pos zq, nq, if_pos s15']
      rfl
    have lv4 : ∀ v, v ∈ l → v < 4 := fun v hv => by have := hl2 v hv; omega
    have lv8 : ∀ v, v ∈ l → v < 8 := fun v hv => by have := lv4 v hv; omega
    have cC : ∀ k (s : zσ), k < 4 → f109 n (nI (zpk l)) (nI k) s = some (nI (zcn l k), s) := fun k s hk => c_109 (by omega) hl1 lv4 hk
    have cM : ∀ k (t' : zσ), k < 4 → t'.2 = t.2 → (∀ a, a ≠ 1211 → t'.1 a = t.1 a) → f232 n (nI q) (nI k) t' = some (nI (zcn l k), t') := fun k t' hk h1 h2 => m_232 (by omega) hyy (by rw [h1]; exact r11) a2 hl1 lv8 hk (by rw [h2 _ (by omega)]; exact e20m) (fun q hq => by
      obtain ⟨u, u1, u2, u3⟩ := hlu q hq
      exact ⟨u, u1, by rw [h2 _ (by omega)]; exact u2, by rw [h2 _ (by omega)]; exact u3⟩)
    rcases ask_1 (n := n) (s := s) (c := zcn l) (fun k _ => by have := zcn_le l k; omega) cC (fun k hk => cM k t hk rfl (fun _ _ => rfl)) (fun k hk4 => by
      obtain ⟨v, u, g1, g2, g3, g4, g5⟩ := d5 k hk4
      refine ⟨v, u, g1, g2, g3, g4, fun q => g5 ?_⟩
      rcases Nat.lt_or_ge k (G 6 2) with w | w
      · exact w
      · exact absurd (zcn_0 l k (fun v hv => by have := hl2 v hv; omega)) q) 4 0 n n (by decide) (by omega) (by omega) with ⟨f1, -⟩ | ⟨-, -, f3⟩
    · rw [e21l] at hc1
      have f1' : f108 n (nI (zpk l)) s = some (0, s) := f1
      rw [f1'] at hc1
      exact absurd (Prod.mk.inj (Option.some.inj hc1)).1 (by decide)
    · obtain ⟨s4, b1, b2, b3, b4, -⟩ := ask_c cC 4 0 n s (by decide) (by omega)
      obtain ⟨t4, m1, m2, m3, m4, -⟩ := have_m (n := n) (R := nI q) (I := nI j) (c := zcn l) 4 0 n t cM (by decide) (by omega)
      refine ⟨s4, t4, by rw [eC, b1], by rw [eM, m1], RUNx_glob h ⟨b2, fun a ha => b3 a (by omega)⟩ ⟨m2, fun a q1 q2 q3 => m3 a (by omega), by rw [m3 1132 (by decide)]⟩ ⟨?_, ?_, ?_, ?_, ?_, ?_, ?_, ?_, ?_, ?_, ?_⟩ ?_, ⟨b2, fun a ha => b3 a (by omega)⟩, ⟨m2, fun a q1 q2 q3 => m3 a (by omega), by rw [m3 1132 (by decide)]⟩⟩
      · unfold rA at d1 ⊢
        simp (disch := omega) only [b3, m3]
        exact d1
      · unfold rB at d2 ⊢
        simp (disch := omega) only [b3, m3]
        exact d2
      · unfold rV at d3 ⊢
        simp (disch := omega) only [b3, m3]
        exact d3
      · unfold rW at d4 ⊢
        simp (disch := omega) only [b3, m3]
        exact d4
      · intro k hk4
        obtain ⟨v, u, g1, g2, g3, g4, g5⟩ := d5 k hk4
        have b9 := f3 k (by omega) hk4 v g3 g1
        rw [b4 k (by omega) hk4, m4 k (by omega) hk4, g3, g4]
        by_cases w : k < G 6 2
        · have := g5 w
          subst this
          rw [nsubN b9]
          exact ⟨v - zcn l k, v - zcn l k, by omega, by omega, rfl, rfl, fun _ => rfl⟩
        · have z0 : zcn l k = 0 := zcn_0 l k (fun v hv => by have := hl2 v hv; omega)
          rw [z0, nsubN (Nat.zero_le _), nsubN (Nat.zero_le _)]
          exact ⟨v, u, g1, g2, rfl, rfl, fun q => absurd q w⟩
      · unfold rL at d6 ⊢
        simp (disch := omega) only [b3, m3]
        exact d6
      · unfold rI at d7 ⊢
        simp (disch := omega) only [b3, m3]
        exact d7
      · unfold rO at d8 ⊢
        simp (disch := omega) only [b3, m3]
        exact d8
      · unfold rP at d9 ⊢
        simp (disch := omega) only [b3, m3]
        exact d9
      · unfold rH at d10 ⊢
        simp (disch := omega) only [b3, m3]
        exact d10
      · unfold rC at d11 ⊢
        simp (disch := omega) only [b3, m3]
        exact d11
      · unfold rE at dE ⊢
        simp (disch := omega) only [b3, m3]
        exact dE
  · -- reserve
    obtain ⟨⟨u, v, hu, hv, e17, e33, e21v⟩, -⟩ := tO_12 k hO
    have s20' : s.1 (x + 20) q = 161 := by rw [s20, k]; rfl
    have s15' : t.1 (y + 15) q = 12 := by rw [s15, k]; rfl
    have z14 : zin? (nI u) 1400 = true := (zinN (by omega)).mpr hu
    have hv4 : v < 4 := by omega
    have z4 : zin? (nI v) 4 = true := (zinN (by omega)).mpr hv4
    have nv := nxN (show v < 2 ^ 31 by omega)
    have eC : f114 n (1036 + 3 * j) (nI q) s = some (sI s 1016 v (nI j)) := by
      unfold f114
      rw [r9, grd k6, if_pos zq, zlet, grd k6, if_pos zq, nq, e20, e21, if_neg (by rw [s20']; decide), if_pos s20', e21v, if_pos z4, nv, i0]
      rfl
    have eM : f235 n (nI j) t = f235_178 n (nI j) (sI t 1212 v (nI j)) := by
      rw [eM0, if_neg (by rw [e17]; exact fun e => (neqM (show u < 2 ^ 31 by omega)).mp e), e17, if_pos z14, nxN (show u < 2 ^ 31 by omega), e33]
      unfold f235_45
      rw [r11, grd k12, if_pos zq, nq, if_neg (by rw [s15']; decide), if_pos s15', if_pos z4, nv, zlet]
    refine ⟨_, _, eC, eM, RUNx_glob h ⟨rfl, fun a ha => hIo (by omega)⟩ ⟨rfl, fun a q1 q2 q3 => hIo (by omega), by rw [hIo (by decide)]⟩ ⟨?_, ?_, ?_, ?_, ?_, ?_, ?_, ?_, ?_, ?_, ?_⟩ ?_, ⟨rfl, fun a ha => hIo (by omega)⟩, ⟨rfl, fun a q1 q2 q3 => hIo (by omega), by rw [hIo (by decide)]⟩⟩
    · unfold rA at d1 ⊢
      simp (disch := omega) only [hIo]
      exact d1
    · unfold rB at d2 ⊢
      simp (disch := omega) only [hIo]
      exact d2
    · unfold rV at d3 ⊢
      simp (disch := omega) only [hIo]
      exact d3
    · unfold rW at d4 ⊢
      simp (disch := omega) only [hIo]
      exact d4
    · unfold rS at d5 ⊢
      simp (disch := omega) only [hIo]
      exact d5
    · refine ⟨fun b hb => ?_, fun k hk => ?_⟩
      · by_cases e : b = v
        · subst e
          rw [hIe, hIe]
          exact ⟨rfl, Or.inr ⟨j, hj, rfl⟩⟩
        · rw [hIk e, hIk e]
          exact d6.1 b hb
      · rw [hIo (by decide), hIo (by decide)]
        exact d6.2 k hk
    · unfold rI at d7 ⊢
      simp (disch := omega) only [hIo]
      exact d7
    · unfold rO at d8 ⊢
      simp (disch := omega) only [hIo]
      exact d8
    · unfold rP at d9 ⊢
      simp (disch := omega) only [hIo]
      exact d9
    · unfold rH at d10 ⊢
      simp (disch := omega) only [hIo]
      exact d10
    · unfold rC at d11 ⊢
      simp (disch := omega) only [hIo]
      exact d11
    · unfold rE at dE ⊢
      simp (disch := omega) only [hIo]
      exact dE
  · -- enter
    obtain ⟨⟨u, v, hu, hv, e17, e33, e21v⟩, -⟩ := tO_14 k hO
    have s20' : s.1 (x + 20) q = 163 := by rw [s20, k]; rfl
    have s15' : t.1 (y + 15) q = 14 := by rw [s15, k]; rfl
    have z14 : zin? (nI u) 1400 = true := (zinN (by omega)).mpr hu
    have hv4 : v < 4 := by omega
    have z32 : zin? (nI (8 * v + j)) 32 = true := (zinN (by omega)).mpr (by omega)
    have eC : f114 n (1036 + 3 * j) (nI q) s = some (sI s 1017 (8 * v + j) (s.1 1017 (8 * v + j) + 1)) := by
      unfold f114
      rw [r9, grd k6, if_pos zq, zlet, grd k6, if_pos zq, nq, e20, e21, if_neg (by rw [s20']; decide), if_neg (by rw [s20']; decide), if_neg (by rw [s20']; decide), e21v, i0, nmulL, naddN, if_pos z32, if_pos z32, nxN (show 8 * v + j < 2 ^ 31 by omega)]
      rfl
    have eM : f235 n (nI j) t = f235_178 n (nI j) (sI t 1213 (8 * v + j) (t.1 1213 (8 * v + j) + 1)) := by
      rw [eM0, if_neg (by rw [e17]; exact fun e => (neqM (show u < 2 ^ 31 by omega)).mp e), e17, if_pos z14, nxN (show u < 2 ^ 31 by omega), e33]
      unfold f235_45
      rw [r11, grd k12, if_pos zq, nq, if_neg (by rw [s15']; decide), if_neg (by rw [s15']; decide), if_neg (by rw [s15']; decide), nLmul, naddN, if_pos z32, if_pos z32, nxN (show 8 * v + j < 2 ^ 31 by omega), zlet]
    refine ⟨_, _, eC, eM, RUNx_glob h ⟨rfl, fun a ha => hIo (by omega)⟩ ⟨rfl, fun a q1 q2 q3 => hIo (by omega), by rw [hIo (by decide)]⟩ ⟨?_, ?_, ?_, ?_, ?_, ?_, ?_, ?_, ?_, ?_, ?_⟩ ?_, ⟨rfl, fun a ha => hIo (by omega)⟩, ⟨rfl, fun a q1 q2 q3 => hIo (by omega), by rw [hIo (by decide)]⟩⟩
    · unfold rA at d1 ⊢
      simp (disch := omega) only [hIo]
      exact d1
    · unfold rB at d2 ⊢
      simp (disch := omega) only [hIo]
      exact d2
    · unfold rV at d3 ⊢
      simp (disch := omega) only [hIo]
      exact d3
    · unfold rW at d4 ⊢
      simp (disch := omega) only [hIo]
      exact d4
    · unfold rS at d5 ⊢
      simp (disch := omega) only [hIo]
      exact d5
    · refine ⟨fun b hb => ?_, fun k hk => ?_⟩
      · rw [hIo (by decide), hIo (by decide)]
        exact d6.1 b hb
      · by_cases e : k = 8 * v + j
        · subst e
          rw [hIe, hIe, d6.2 _ hk]
        · rw [hIk e, hIk e]
          exact d6.2 k hk
    · unfold rI at d7 ⊢
      simp (disch := omega) only [hIo]
      exact d7
    · unfold rO at d8 ⊢
      simp (disch := omega) only [hIo]
      exact d8
    · unfold rP at d9 ⊢
      simp (disch := omega) only [hIo]
      exact d9
    · unfold rH at d10 ⊢
      simp (disch := omega) only [hIo]
      exact d10
    · unfold rC at d11 ⊢
      simp (disch := omega) only [hIo]
      exact d11
    · unfold rE at dE ⊢
      simp (disch := omega) only [hIo]
      exact dE
  · -- take
    obtain ⟨⟨u, v, hu, hv, e17, e33, e21v⟩, ⟨u', w', hu', hw, e18, e33', e22w⟩, -⟩ := tO_23 k hO
    have s20' : s.1 (x + 20) q = 165 := by rw [s20, k]; rfl
    have s15' : t.1 (y + 15) q = 23 := by rw [s15, k]; rfl
    have z14 : zin? (nI u) 1400 = true := (zinN (by omega)).mpr hu
    have hv4 : v < 4 := by omega
    have z4 : zin? (nI v) 4 = true := (zinN (by omega)).mpr hv4
    have nv := nxN (show v < 2 ^ 31 by omega)
    have h60 := (hN.1 0 (by decide)).2.2
    have hw8 : w' < 8 := by omega
    have zw : zin? (nI w') 8 = true := (zinN (by omega)).mpr hw8
    have zu' : zin? (nI u') 1400 = true := (zinN (by omega)).mpr hu'
    have hc1 : 0 < s.1 1019 v := by
      rcases hc with ⟨c, -⟩ | ⟨c, -⟩ | ⟨-, c⟩ | ⟨c, -⟩
      · rw [s20'] at c; exact absurd c (by decide)
      · rw [s20'] at c; exact absurd c (by decide)
      · rw [e21v, nv] at c; exact c
      · rw [s20'] at c; exact absurd c (by decide)
    obtain ⟨Z, z0, i1, i2, i4⟩ := id (d7 v hv4)
    rw [i1] at hc1
    have Z0 : 0 < Z := (nltN (a := 0) (by decide) (by omega)).mp hc1
    obtain ⟨z, rfl⟩ : ∃ z, Z = z + 1 := ⟨Z - 1, by omega⟩
    have hz : z < 20 := by omega
    obtain ⟨t4, e1, e2, e3, e4, e5⟩ := m_236 (n := n) (by omega) hv4 hz i2
    have mm : ∀ a, a ≠ 1217 → t4.1 a = (sI t 1218 v (nI z)).1 a := e3
    have i3 : s.1 1018 (20 * v) = t.1 1217 (20 * v) := i4 0 (by omega)
    have eC : f114 n (1036 + 3 * j) (nI q) s = some (sI (sC (sI s 1019 v (nI z)) 1018 (20 * v + 1) 1018 (20 * v) z) 1010 w' (s.1 1018 (20 * v))) := by
      unfold f114
      rw [r9, grd k6, if_pos zq, zlet, grd k6, if_pos zq, nq, e20, e21, if_neg (by rw [s20']; decide), if_neg (by rw [s20']; decide), if_pos s20', grd k6, if_pos zq, e21v, c_116 hv4 hz i1, gy1, e22, e22w, if_pos zw, nxN (show w' < 2 ^ 31 by omega)]
      rfl
    have eM : f235 n (nI j) t = f235_178 n (nI j) (sI t4 1207 w' (t.1 1217 (20 * v))) := by
      rw [eM0, if_neg (by rw [e17]; exact fun e => (neqM (show u < 2 ^ 31 by omega)).mp e), e17, if_pos z14, nxN (show u < 2 ^ 31 by omega), e33]
      unfold f235_45
      rw [r11, grd k12, if_pos zq, nq, if_neg (by rw [s15']; decide), if_neg (by rw [s15']; decide), if_pos s15', grd k12, grd k12, if_pos zq, e18, if_pos zu', nxN (show u' < 2 ^ 31 by omega), e33', e1, gy1, if_pos zw, nxN (show w' < 2 ^ 31 by omega), zlet]
    refine ⟨_, _, eC, eM, RUNx_glob h ⟨rfl, fun a ha => by simp (disch := omega) only [hIo, hCo]⟩ ⟨by show t4.2 = t.2; exact e2, fun a q1 q2 q3 => by rw [hIo (by omega), mm a (by omega), hIo (by omega)], by rw [hIo (by decide), mm 1132 (by decide), hIo (by decide)]⟩ ⟨?_, ?_, ?_, ?_, ?_, ?_, ?_, ?_, ?_, ?_, ?_⟩ ?_, ⟨rfl, fun a ha => by simp (disch := omega) only [hIo, hCo]⟩, ⟨by show t4.2 = t.2; exact e2, fun a q1 q2 q3 => by rw [hIo (by omega), mm a (by omega), hIo (by omega)], by rw [hIo (by decide), mm 1132 (by decide), hIo (by decide)]⟩⟩
    · unfold rA at d1 ⊢
      simp (disch := omega) only [hIo, hIk, hCo, mm]
      exact d1
    · unfold rB at d2 ⊢
      simp (disch := omega) only [hIo, hIk, hCo, mm]
      exact d2
    · intro q hq
      by_cases e : q = w'
      · subst e
        rw [hIe, hIe]
        exact i3
      · rw [hIk e, hIk e, hCo (by decide), hIo (by decide), e3 1207 (by decide), hIo (by decide)]
        exact d3 q hq
    · unfold rW at d4 ⊢
      simp (disch := omega) only [hIo, hIk, hCo, mm]
      exact d4
    · unfold rS at d5 ⊢
      simp (disch := omega) only [hIo, hIk, hCo, mm]
      exact d5
    · unfold rL at d6 ⊢
      simp (disch := omega) only [hIo, hIk, hCo, mm]
      exact d6
    · intro q hq
      obtain ⟨zz, j1, j2, j3, j4⟩ := d7 q hq
      by_cases e : q = v
      · subst e
        have ezz : zz = z + 1 := (neqN (by omega) (by omega)).mp (j2.symm.trans i1)
        subst ezz
        refine ⟨z, by omega, ?_, ?_, fun j hj => ?_⟩
        · rw [hIo (by decide), hCo (by decide), hIe]
        · rw [hIo (by decide), e3 1218 (by decide), hIe]
        · rw [hIo (by decide), hIo (by decide), e4 j hj, gC, if_pos ⟨rfl, by omega, by omega⟩, hIo (by decide), show 20 * q + 1 + (20 * q + j - 20 * q) = 20 * q + (j + 1) by omega]
          exact j4 (j + 1) (by omega)
      · refine ⟨zz, j1, ?_, ?_, fun j hj => ?_⟩
        · rw [hIo (by decide), hCo (by decide), hIk e]; exact j2
        · rw [hIo (by decide), e3 1218 (by decide), hIk e]; exact j3
        · rw [hIo (by decide), hIo (by decide), e5 _ (by omega), gC, if_neg (by omega), hIo (by decide)]
          exact j4 j hj
    · unfold rO at d8 ⊢
      simp (disch := omega) only [hIo, hIk, hCo, mm]
      exact d8
    · unfold rP at d9 ⊢
      simp (disch := omega) only [hIo, hIk, hCo, mm]
      exact d9
    · unfold rH at d10 ⊢
      simp (disch := omega) only [hIo, hIk, hCo, mm]
      exact d10
    · unfold rC at d11 ⊢
      simp (disch := omega) only [hIo, hIk, hCo, mm]
      exact d11
    · unfold rE at dE ⊢
      simp (disch := omega) only [hIo, hIk, hCo, mm]
      exact dE
end ZCC
