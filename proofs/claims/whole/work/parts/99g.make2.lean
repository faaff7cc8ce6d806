/-! the act make, whole -/
section ZAZ
variable {G W : Nat → Nat → Nat} {F : Nat → Nat → Nat → Nat} {B C x y n i D r : Nat} {s t : zσ}
theorem act_7 (hb : bR B C n) (h : aH G F W B C x y i D r s t) (h69 : t.1 1132 69 = 0) (hk : G 10 r = 7) : pR G B C x y (cP n i r s) (mP n i r t) := by
  have hr := aH_r h
  obtain ⟨hxx, hyy, r9, r11, w3, w4, w6, zr, z8, hi⟩ := aH_k h
  obtain ⟨k9, k6, k0⟩ := gck9 hxx
  have k12 := gck12 hyy
  have e15 : t.1 (y + 15) r = 7 := by rw [w4, hk]; rfl
  obtain ⟨hA, hE⟩ := tO_7 hk w6
  obtain ⟨s2, t2, o1, o2, o3⟩ := work_1 hb.1 h h69 hE
  have h2 := aH_sc o1 o2 h
  have r9' : s2.2.2 1007 9 = some (x + 19) := by rw [o1.1]; exact r9
  have t11 : t2.2.2 1132 11 = some y := by rw [o2.1]; exact r11
  have e20 : s2.1 (x + 19 + 1) r = 154 := by
    have : s2.1 (x + 20) r = nI 154 := zk_lit hk rfl (aH_k h2).2.2.2.2.1
    exact this
  have e242 : f242 n (nI i) (nI r) t = yb0 (f255 n (nI i) (nI r) t) fun u1 => some u1 := by
    unfold f242
    rw [r11, grd k12, if_pos zr, nxN (show r < 2 ^ 31 by omega), if_neg (show ¬ _ = (1 : Int32) by rw [e15]; decide), if_neg (show ¬ _ = (2 : Int32) by rw [e15]; decide), if_neg (show ¬ _ = (3 : Int32) by rw [e15]; decide), if_neg (show ¬ _ = (4 : Int32) by rw [e15]; decide), if_neg (show ¬ _ = (5 : Int32) by rw [e15]; decide), if_neg (show ¬ _ = (6 : Int32) by rw [e15]; decide), if_pos e15]
    rfl
  obtain ⟨u, v, hu0, hv, e17, e33, e21⟩ := hA
  have z14 : zin? (nI u) 1400 = true := (zinN (by omega)).mpr hu0
  have n33 := nxN (show u < 2 ^ 31 by omega)
  have nr := nxN (show r < 2 ^ 31 by omega)
  have hm := h.1.1.2.1.1.2.1
  have e21' : s2.1 (x + 19 + 2) r = nI v := by
    have : s2.1 (x + 21) r = s.1 (x + 21) r := by rw [scC_a o1 (by omega) (by omega) (by omega) (by omega)]
    rw [← e21]
    exact this
  have z4 : zin? (nI v) 4 = true := (zinN (by omega)).mpr (by omega)
  have nv := nxN (show v < 2 ^ 31 by omega)
  have hv4 : v < 4 := by omega
  have C1 : f97 n (1036 + 3 * i) (nI r) s2 = f100 n (nI v) (s2.1 1033 0) s2 := by
    unfold f97
    rw [r9', grd k6, if_pos zr, zlet, if_pos z0_64, zlet, grd k6, if_pos zr, nxN (show r < 2 ^ 31 by omega), x0_n, if_neg (show ¬ _ = (1 : Int32) by rw [e20]; decide), if_neg (show ¬ _ = (91 : Int32) by rw [e20]; decide), if_neg (show ¬ _ = (149 : Int32) by rw [e20]; decide), if_neg (show ¬ _ = (150 : Int32) by rw [e20]; decide), if_neg (show ¬ _ = (151 : Int32) by rw [e20]; decide), if_neg (show ¬ _ = (152 : Int32) by rw [e20]; decide), if_pos e20, e21', gyT]
  have M1 : ∀ a0, f243 n (nI i) (t.1 (y + 22) (4 * r)) t = some (a0, t2) → f242 n (nI i) (nI r) t = (if (t2.1 1132 69) = (0 : Int32) then if a0 < (0 : Int32) then f255_79 n (nI i) (nI v) a0 t2 else if (20 : Int32) < a0 then f255_79 n (nI i) (nI v) a0 t2 else if (t2.1 1132 28) = (4000 : Int32) then f255_79 n (nI i) (nI v) a0 t2 else f255_84 n (nI i) (nI v) a0 t2 else f255_84 n (nI i) (nI v) a0 t2) := by
    intro a0 hf
    rw [e242, gyS]
    unfold f255
    rw [r11, grd k12, grd k12, if_pos zr, nr, e17, if_pos z14, zlet, n33, e33, grd k12, if_pos zr, if_pos e15, grd k12, nLmul, if_pos z8, nxN (show 4 * r < 2 ^ 31 by omega), hf, gy1]
  rcases o3 with ⟨c1, m1, m2⟩ | ⟨w, w1, w2, c1, m1, m2⟩
  · have M2 := M1 _ m2
    rw [if_pos m1] at M2
    obtain ⟨⟨d1, d2, d3, d4, d5, d6, d7, d8, d9, d10, d11⟩, dE⟩ := aH_d h2
    obtain ⟨dE1, ⟨m, hmm, g1, g2⟩, dE3⟩ := id dE
    have m3 : f246 n 3 t2 = some (sI t2 1132 69 (nI 3)) := m_sig (w := 3) m1
    have m79 : ∀ a0, f255_79 n (nI i) (nI v) a0 t2 = some (sI t2 1132 69 (nI 3)) := by
      intro a0
      unfold f255_79
      rw [m3, gy0]
      unfold f255_84
      rw [hIe, if_neg (by decide)]
    have sg : f97 n (1036 + 3 * i) (nI r) s2 = some (3, s2) → f242 n (nI i) (nI r) t = some (sI t2 1132 69 (nI 3)) → pR G B C x y (cP n i r s) (mP n i r t) := by
      intro q1 q2
      exact sig_2 (w := 3) hb (aH_sc scC_rf scM_69 h2) (by decide) hIe c1 q1 q2
    unfold f100 at C1
    rw [g1] at C1
    rw [g2] at M2
    by_cases q1 : s2.1 1033 0 < 0
    · rw [if_pos q1] at C1 M2
      exact sg C1 (by rw [M2, m79])
    · by_cases q2 : 20 < s2.1 1033 0
      · rw [if_neg q1, if_pos q2] at C1 M2
        exact sg C1 (by rw [M2, m79])
      · rw [if_neg q1, if_neg q2] at C1 M2
        by_cases q3 : m < 4000
        · rw [if_pos (show nI m < 4000 from (nltN (b := 4000) (by omega) (by decide)).mpr q3), zlet, if_pos z4, zlet, nv, nI_1] at C1
          rw [if_neg (show ¬ nI m = 4000 from fun e => by have := (neqN (b := 4000) (by omega) (by decide)).mp e; omega)] at M2
          unfold f255_84 at M2
          rw [if_pos m1, zlet, if_pos z4, zlet, nv, g2, nI_1] at M2
          obtain ⟨z, hz31, ez⟩ := nI_of q1
          rw [ez] at C1 M2 q2
          have hz : z ≤ 20 := by
            rcases Nat.lt_or_ge 20 z with w | w
            · exact absurd ((nltN (a := 20) (by decide) hz31).mpr w) q2
            · exact w
          obtain ⟨s3, hs3⟩ : ∃ s3, s3 = sI (sI s2 1009 4 (nI (m + 1))) 1011 v (-1) := ⟨_, rfl⟩
          obtain ⟨t3, ht3⟩ : ∃ t3, t3 = sI (sI t2 1132 28 (nI (m + 1))) 1208 v (-1) := ⟨_, rfl⟩
          rw [← hs3] at C1
          rw [← ht3] at M2
          have fe : ∀ k, k < 4 → t3.1 1208 k = s3.1 1011 k := by
            intro k hk
            rw [hs3, ht3]
            by_cases e : k = v
            · rw [e, hIe, hIe]
            · rw [hIk e, hIk e, hIo (by decide), hIo (by decide)]
              exact ((d4 k hk).1).symm
          have ue : ∀ X, uR (t3.1 1208) X ↔ uR (s3.1 1011) X := fun X => ⟨fun ⟨k, a, b⟩ => ⟨k, a, by rw [← fe k a]; exact b⟩, fun ⟨k, a, b⟩ => ⟨k, a, by rw [fe k a]; exact b⟩⟩
          obtain ⟨p, hp, fp1, fp2⟩ := free_4 (f := s3.1 1011) hv4 (by rw [hs3]; exact hIe)
          have zp : zin? (nI p) 4 = true := (zinN (by omega)).mpr hp
          have n1000 := hb.1
          have ec : f100_44 n n (nI v) (nI z) 0 0 s3 = f100_67 n (nI v) (nI z) (nI p) s3 := by
            have := c_44 (n := n) (j := n - 4) (x1 := nI v) (x2 := nI z) hp fp1 fp2
            rw [show n - 4 + 4 = n by omega] at this
            exact this
          have em : f255_112 n n (nI i) (nI v) (nI z) 0 t3 = f255_182 n n (nI i) (nI p) 0 (sI (sI t3 1208 v (nI p)) 1209 p (nI z)) := by
            have := m_112 (n := n) (j := n - 4) (x1 := nI i) (x4 := nI z) hv4 hp (fun q => fp1 ((ue _).mp q)) (fun q hq => (ue _).mpr (fp2 q hq))
            rw [show n - 4 + 4 = n by omega] at this
            exact this
          obtain ⟨t4, e1, e2, e3, e4, e5⟩ := m_182 (n := n) (x1 := nI i) hp 20 0 n (sI (sI t3 1208 v (nI p)) 1209 p (nI z)) (by decide) (by omega)
          have mm : ∀ a, a ≠ 1210 → t4.1 a = (sI (sI t3 1208 v (nI p)) 1209 p (nI z)).1 a := e3
          have zg : zrgo (nI (20 * p)) (nI (20 * p + z)) 80 = true := by
            unfold zrgo
            refine decide_eq_true ⟨fun q => ?_, nIM0 (by omega), fun q => ?_⟩
            · have := (nltN (show 20 * p + z < 2 ^ 31 by omega) (show 20 * p < 2 ^ 31 by omega)).mp q
              omega
            · have := (nltN (show 80 < 2 ^ 31 by decide) (show 20 * p + z < 2 ^ 31 by omega)).mp q
              omega
          have C2 : f97 n (1036 + 3 * i) (nI r) s2 = some (0, sF (sI (sI s3 1011 v (nI p)) 1012 p (nI z)) 1013 (20 * p) (20 * p + z) 0) := by
            rw [C1, ec]
            unfold f100_67
            rw [if_pos z4, zlet, if_pos zp, zlet, nmulL, naddN, if_pos zg, zlet, nv, nxN (show p < 2 ^ 31 by omega), nxN (show 20 * p < 2 ^ 31 by omega), nxN (show 20 * p + z < 2 ^ 31 by omega)]
          have M3 : f242 n (nI i) (nI r) t = f237 n (nI i) t4 := by
            rw [M2, em]
            exact e1
          have h3 : aH G F W B C x y i D r (sF (sI (sI s3 1011 v (nI p)) 1012 p (nI z)) 1013 (20 * p) (20 * p + z) 0) t4 := by
            refine aH_glob h2 ⟨by rw [hs3]; rfl, fun a ha => by rw [hs3]; simp (disch := omega) only [hFo, hIo]⟩ ⟨by rw [e2, ht3]; rfl, fun a q1 q2 q3 => by rw [mm a (by omega), ht3]; simp (disch := omega) only [hIo], by rw [mm 1132 (by decide), ht3]; simp (disch := omega) only [hIo, hIk]⟩ ⟨?_, ?_, ?_, ?_, ?_, ?_, ?_, ?_, ?_, ?_, ?_⟩ ?_
            · unfold rA at d1 ⊢
              simp (disch := omega) only [hFo, hIo, hIk, mm]
              subst hs3 ht3
              simp (disch := omega) only [hIo, hIk]
              exact d1
            · unfold rB at d2 ⊢
              simp (disch := omega) only [hFo, hIo, hIk, mm]
              subst hs3 ht3
              simp (disch := omega) only [hIo, hIk]
              exact d2
            · unfold rV at d3 ⊢
              simp (disch := omega) only [hFo, hIo, hIk, mm]
              subst hs3 ht3
              simp (disch := omega) only [hIo, hIk]
              exact d3
            · intro q hq
              by_cases e : q = v
              · subst e
                refine ⟨?_, Or.inr ⟨p, z, hp, hz, ?_, ?_, ?_, fun j hj => ?_⟩⟩
                · simp (disch := omega) only [hFo, hIo, hIe, mm]
                · simp (disch := omega) only [hFo, hIo, hIe]
                · simp (disch := omega) only [hFo, hIe]
                · simp (disch := omega) only [mm, hIe]
                · rw [gF, if_pos ⟨rfl, by omega, by omega⟩, e5 _ (by omega) (by omega)]
              · have fq : s3.1 1011 q = s2.1 1011 q := by
                  rw [hs3, hIk e, hIo (by decide)]
                obtain ⟨r1, r2⟩ := d4 q hq
                refine ⟨?_, ?_⟩
                · simp (disch := omega) only [hFo, hIo, hIk e, mm]
                  rw [fq, r1, ht3, hIk e, hIo (by decide)]
                · rcases r2 with r2 | ⟨p', z', hp', hz', r3, r4, r5, r6⟩
                  · refine Or.inl ?_
                    simp (disch := omega) only [hFo, hIo, hIk e]
                    rw [fq, r2]
                  · have pp : p' ≠ p := fun w => fp1 ⟨q, hq, by rw [fq, r3, w]⟩
                    refine Or.inr ⟨p', z', hp', hz', ?_, ?_, ?_, fun j hj => ?_⟩
                    · simp (disch := omega) only [hFo, hIo, hIk e]
                      rw [fq, r3]
                    · simp (disch := omega) only [hFo, hIk pp, hIo]
                      rw [hs3]
                      simp (disch := omega) only [hIo]
                      exact r4
                    · simp (disch := omega) only [mm, hIk pp, hIo]
                      rw [ht3]
                      simp (disch := omega) only [hIo]
                      exact r5
                    · rw [gF, if_neg (by omega), e4 _ (by omega), hs3, ht3]
                      simp (disch := omega) only [hIo]
                      exact r6 j hj
            · unfold rS at d5 ⊢
              simp (disch := omega) only [hFo, hIo, hIk, mm]
              subst hs3 ht3
              simp (disch := omega) only [hIo, hIk]
              exact d5
            · unfold rL at d6 ⊢
              simp (disch := omega) only [hFo, hIo, hIk, mm]
              subst hs3 ht3
              simp (disch := omega) only [hIo, hIk]
              exact d6
            · unfold rI at d7 ⊢
              simp (disch := omega) only [hFo, hIo, hIk, mm]
              subst hs3 ht3
              simp (disch := omega) only [hIo, hIk]
              exact d7
            · unfold rO at d8 ⊢
              simp (disch := omega) only [hFo, hIo, hIk, mm]
              subst hs3 ht3
              simp (disch := omega) only [hIo, hIk]
              exact d8
            · unfold rP at d9 ⊢
              simp (disch := omega) only [hFo, hIo, hIk, mm]
              subst hs3 ht3
              simp (disch := omega) only [hIo, hIk]
              exact d9
            · unfold rH at d10 ⊢
              simp (disch := omega) only [hFo, hIo, hIk, mm]
              subst hs3 ht3
              simp (disch := omega) only [hIo, hIk]
              exact d10
            · unfold rC at d11 ⊢
              simp (disch := omega) only [hFo, hIo, hIk, mm]
              subst hs3 ht3
              simp (disch := omega) only [hIo, hIk]
              exact d11
            · unfold rE
              simp (disch := omega) only [hFo, hIo, hIk, mm]
              subst hs3 ht3
              simp (disch := omega) only [hIo, hIk, hIe]
              exact ⟨dE1, ⟨m + 1, by omega, rfl, rfl⟩, dE3⟩
          exact on_2 (Nat.le_succ _) hb h3 (by rw [mm 1132 (by decide), ht3]; simp (disch := omega) only [hIo, hIk]; exact m1) c1 C2 M3
        · rw [if_neg (show ¬ nI m < 4000 from fun e => q3 ((nltN (b := 4000) (by omega) (by decide)).mp e))] at C1
          rw [if_pos (show nI m = 4000 by rw [show m = 4000 by omega]; rfl), m79] at M2
          exact sg C1 M2
  · have nz : ¬ nI w = 0 := fun q => by have := (neq0 (show w < 2 ^ 31 by omega)).mp q; omega
    refine sig_1 hb h o1 o2 ⟨w1, w2⟩ m1 c1 ?_
    rw [M1 _ m2, m1, if_neg nz]
    unfold f255_84
    rw [m1, if_neg nz]
end ZAZ
