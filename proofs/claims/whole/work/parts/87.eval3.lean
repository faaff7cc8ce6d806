/-! one code, all kinds -/
section ZEY
variable {G W : Nat → Nat → Nat} {F : Nat → Nat → Nat → Nat} {B C x y n i D : Nat} {s t : zσ}
set_option maxHeartbeats 4000000 in
theorem ev_step {e hb p c1 : Nat} {h : Nat → Nat} (hn : 200 ≤ n) (hcl : CL G F W B C x y i D s t) (he : e < 401) (hto : t.1 (y + 26) e = nI c1) (hp : p < c1) (hc1 : c1 ≤ 400) (h69 : t.1 1132 69 = 0) (hC : tC G x y (F i 0 (D - 1)) p s t) (hH : tH G h p) (hP : PS hb (h p) s t) (hhb : hb ≤ 3) : evO n i e hb (h p) (h (p + 1)) p (s.1 (x + 27) p) (s.1 (x + 28) p) s t := by
  have hi := CL_i hcl
  obtain ⟨hx, ha, hb3, hu, c1', c2, c3, c4, c5, c6, c7, c8, c9, c10, c11⟩ := id hcl
  obtain ⟨⟨hxx, hyy, ⟨r8, -⟩, r9, r10, r11, rt⟩, ⟨hN, hDD, hBB, hS⟩, ⟨hA, -, hV, hW, -⟩, -⟩ := id hx
  have k12 := gck12 hyy
  have g0 := (hN.1 0 (by decide)).2.2
  have g8 := (hN.1 8 (by decide)).2.2
  have g1 := hN.2.1.1
  obtain ⟨h27, hC⟩ := hC
  obtain ⟨hp40, hq40, hu1, hu2, hu3⟩ := hH
  have hG7 : G 13 p ≤ 7 := by
    rcases hC with ⟨q, -⟩ | ⟨q, -⟩ | ⟨q, -⟩ | ⟨q, -⟩ | ⟨q, -⟩ | ⟨q, -⟩ | ⟨q, -⟩ | ⟨q, -⟩ <;> omega
  have hm := fun j => m_code (n := n) (i := i) (e := e) (h := h p) (p := p) (j := j) (G := G) hyy r11 he hto hp hc1 h69 h27 hG7
  rcases hC with ⟨q, o1, o2⟩ | ⟨q, o1, o2⟩ | ⟨q, o1, o2⟩ | ⟨q, o1, o2⟩ | ⟨q, o1⟩ | ⟨q, o1, o2⟩ | ⟨q, o1⟩ | ⟨q, o1, o2⟩
  · -- a number
    rw [hu3 (Or.inl q), o1]
    refine evO_push (v := (s.1 (x + 28) p).toInt64) (fits _) hP h69 hhb hp40 ?_ (fun j => ?_)
    · simp only [f91, ↓reduceIte, show ¬ (2 : Int32) = 1 by decide, zlet]
    · rw [hm j, q, o2]
      rfl
  · -- a var or a parameter
    rw [hu3 (Or.inr (Or.inl q)), o1]
    obtain ⟨u, v, hu0, e28, e33, hcase⟩ := o2
    have z14 : zin? (nI u) 1400 = true := (zinN (by omega)).mpr hu0
    rcases hcase with ⟨e34, hv, ea⟩ | ⟨e34, hv, ea, h5, h6⟩
    · have z8 : zin? (nI v) 8 = true := (zinN (by omega)).mpr (by omega)
      have l1 : nI v < 8 := (nltN (b := 8) (by omega) (by decide)).mpr (by omega)
      refine evO_push (v := (s.1 1010 v).toInt64) (fits _) hP h69 hhb hp40 ?_ (fun j => ?_)
      · rw [ea]
        simp (disch := omega) only [f91, f91_115, ↓reduceIte, l1, z8, nxN]
      · have e50 : f250 n (nI i) (nI u) t = some (t.1 1207 v, t) := by
          simp (disch := omega) only [f250, zlet, ↓reduceIte, r11, grd k12, z14, nxN, e33, e34, z8]
        rw [hm j, q, e28, e50, hV v hv]
        rfl
    · have hK := c9 (D - 1) (by omega)
      have lv : 0 < F i 2 (D - 1) := by
        rcases Nat.eq_zero_or_pos (F i 2 (D - 1)) with q | q
        · have := hK.2.2.2.2.1.mp q; omega
        · exact q
      have l8 := hK.2.2.2.1
      obtain ⟨e', e1, e2, e3, e4, e5⟩ := m_scope (n := n) hi c9 (D - 1) n (by omega) c6 (by omega) lv
      have es : f218 n (nI i) t = some (nI (140 * i + e'), t) := by
        unfold f218
        rw [m_top2 hi c4 c5 c6, gy1]
        exact e2
      have ix : 3 * nI (F i 2 (D - 1)) + nI (8 + v) - 8 = nI (3 * F i 2 (D - 1) + v) := by
        rw [nLmul, naddN, show (nI (3 * F i 2 (D - 1) + (8 + v)) - 8 : Int32) = nI (3 * F i 2 (D - 1) + (8 + v) - 8) from nsubL (k := 8) (by omega)]
        congr 1
        omega
      have z27 : zin? (nI (3 * F i 2 (D - 1) + v)) 27 = true := (zinN (by omega)).mpr (by omega)
      have l1 : ¬ nI (8 + v) < 8 := fun q => by have := (nltN (b := 8) (show 8 + v < 2 ^ 31 by omega) (by decide)).mp q; omega
      have z33 : zin? (nI (3 * (140 * i + e') + v)) 3360 = true := (zinN (by omega)).mpr (by omega)
      have q9 : ¬ (9 : Int32) = 0 := by decide
      -- the frame's proc is the routine
      obtain ⟨hb0, -, -, -, lz, -⟩ := c9 e' (by omega)
      obtain ⟨-, -, -, -, -, -, ⟨g7, -, g57, -⟩, -⟩ := hBB (F i 0 e') hb0
      obtain ⟨-, g5, -, -⟩ := (hBB (G 7 (F i 0 e')) g7).2.2.2.1 e3
      have rt5 : G 5 (F i 0 (D - 1)) = G 5 (F i 0 e') := by
        have key : ∀ c, e' + c ≤ D - 1 → G 5 (F i 0 (e' + c)) = G 5 (F i 0 e') := by
          intro c
          induction c with
          | zero => intro _; rfl
          | succ c ih =>
            intro hc
            obtain ⟨hbc, -, -, -, -, hcc⟩ := c9 (e' + (c + 1)) (by omega)
            have nk := e5 (e' + (c + 1)) (by omega) (by omega)
            obtain ⟨-, -, -, -, -, -, ⟨gg7, -, gg5, -⟩, -⟩ := hBB (F i 0 (e' + (c + 1))) hbc
            rcases hcc with ⟨w, -⟩ | ⟨-, w, -⟩ | ⟨-, w1, -, -, w2⟩
            · omega
            · exact absurd w nk
            · obtain ⟨-, -, w5, -, -⟩ := (hBB _ gg7).2.2.2.2.1 w1
              have w3 := (c10 (e' + c) (by omega)).2.1
              rw [show e' + (c + 1) - 1 = e' + c by omega] at w2
              rw [← w2, w3] at w5
              rw [← gg5, w5]
              exact ih (by omega)
        have := key (D - 1 - e') (by omega)
        rw [show e' + (D - 1 - e') = D - 1 by omega] at this
        exact this
      have par : v < G 12 (G 3 (G 7 (F i 0 e'))) := by
        have : G 5 (F i 0 (D - 1)) - 8 = G 3 (G 7 (F i 0 e')) := by
          rw [rt5, ← g57, g5]
          omega
        rw [← this]
        exact h6
      have eq := c11 e' (by omega) e3 v hv par
      rw [e4] at eq
      refine evO_push (v := (s.1 (1036 + 3 * i + 2) (3 * F i 2 (D - 1) + v)).toInt64) (fits _) hP h69 hhb hp40 ?_ (fun j => ?_)
      · rw [ea]
        simp (disch := omega) only [f91, f91_115, ↓reduceIte, l1, c7, ix, z27, nxN]
      · have e50 : f250 n (nI i) (nI u) t = some (t.1 1239 (3 * (140 * i + e') + v), t) := by
          simp (disch := omega) only [f250, zlet, ↓reduceIte, r11, grd k12, z14, nxN, e33, e34, q9, es, gy1, nLmul, naddN, z33]
        rw [hm j, q, e28, e50, eq]
        rfl
  · -- an item
    obtain ⟨w1, w2⟩ := hu1 (Or.inl q)
    obtain ⟨k, hk⟩ : ∃ k, h p = k + 1 := ⟨h p - 1, by omega⟩
    have hk2 : h (p + 1) = k + 1 := by omega
    rw [hk2, o1]
    obtain ⟨u, v, hu0, hv, e28, e33, ea⟩ := o2
    have z14 : zin? (nI u) 1400 = true := (zinN (by omega)).mpr hu0
    have z4 : zin? (nI v) 4 = true := (zinN (by omega)).mpr (by omega)
    have h16 := hP.1
    rw [hk] at h16
    have pp := c_pop (n := n) (k := hb + k) (s := s) (by rw [h16]; rfl) (by omega)
    have zk : zin? (nI k) 420 = true := (zinN (by omega)).mpr (by omega)
    have ek : nI (k + 1) - 1 = nI k := nI_pred k
    have pk := hP.2 k (by omega)
    obtain ⟨rr1, rr2⟩ := hW v (by omega)
    have s11 : (sI s 1007 16 (nI (hb + k))).1 1011 = s.1 1011 := hIo (by decide)
    have s12 : (sI s 1007 16 (nI (hb + k))).1 1012 = s.1 1012 := hIo (by decide)
    have s13 : (sI s 1007 16 (nI (hb + k))).1 1013 = s.1 1013 := hIo (by decide)
    have m1 : f246 n 1 t = some (sI t 1132 69 (nI 1)) := m_sig (w := 1) h69
    have m2 : f246 n 2 t = some (sI t 1132 69 (nI 2)) := m_sig (w := 2) h69
    have hmm : ∀ j, f243_13 n (j + 1) (nI i) (nI e) (nI (h p)) (nI p) t = yb1 (f247 n (nI v) (s.1 1033 (hb + k)).toInt64 t) fun v14 u13 => f243_13 n j (nI i) (nI e) (nI (k + 1)) (nI (p + 1)) (sJ u13 1245 k v14.toInt64) := by
      intro j
      rw [hm j, q, hk, show nI 2 = (2 : Int32) from rfl]
      simp (disch := omega) only [↓reduceIte, show ¬ (2 : Int32) = 7 by decide, show ¬ (2 : Int32) = 6 by decide, r11, grd k12, e28, z14, nxN, e33, ek, zk, pk, zlet, f243_261, nI_1]
    rcases rr2 with rr2 | ⟨sl, z, hsl, hz, rr2, rr3, rr4, rr5⟩
    · -- no array
      refine evO_sig (w := 1) (sP := sI s 1007 16 (nI (hb + k))) (tP := sJ (sI t 1132 69 (nI 1)) 1245 k 0) (by omega) scC_16 c_16 (scE_tr scE_69 scE_45) (by rw [gJ1, hIe]) ?_ (fun j => ⟨nI (k + 1), ?_⟩)
      · rw [ea]
        simp (disch := omega) only [f91, ↓reduceIte, show ¬ (91 : Int32) = 1 by decide, show ¬ (91 : Int32) = 2 by decide, show ¬ (91 : Int32) = 5 by decide, pp, gy1, f94, z4, nxN, s11, rr2, show ¬ (1 : Int32) = 0 by decide]
        rfl
      · have e47 : f247 n (nI v) (s.1 1033 (hb + k)).toInt64 t = some (0, sI t 1132 69 (nI 1)) := by
          simp (disch := omega) only [f247, f248, f248_33, f249, ↓reduceIte, z4, nxN, ← rr1, rr2, m1, gy0, gy1, hIe, show ¬ nI 1 = (0 : Int32) by decide]
        rw [hmm j, e47]
        rfl
    · have p4 : zin? (nI sl) 4 = true := (zinN (by omega)).mpr hsl
      have p5 : zin? (nI sl) 5 = true := (zinN (by omega)).mpr (by omega)
      have pm : ¬ nI sl = -1 := fun q => (neqM (show sl < 2 ^ 31 by omega)).mp q
      by_cases bn : s.1 1033 (hb + k) < 0
      · refine evO_sig (w := 2) (sP := sI s 1007 16 (nI (hb + k))) (tP := sJ (sI t 1132 69 (nI 2)) 1245 k 0) (by omega) scC_16 c_16 (scE_tr scE_69 scE_45) (by rw [gJ1, hIe]) ?_ (fun j => ⟨nI (k + 1), ?_⟩)
        · rw [ea]
          simp (disch := omega) only [f91, ↓reduceIte, show ¬ (91 : Int32) = 1 by decide, show ¬ (91 : Int32) = 2 by decide, show ¬ (91 : Int32) = 5 by decide, pp, gy1, f94, f94_31, z4, nxN, s11, rr2, pm, bn, show ¬ (2 : Int32) = 0 by decide]
          rfl
        · have e47 : f247 n (nI v) (s.1 1033 (hb + k)).toInt64 t = some (0, sI t 1132 69 (nI 2)) := by
            simp (disch := omega) only [f247, f248, f248_28, f248_33, f249, ↓reduceIte, z4, p5, nxN, ← rr1, rr2, pm, gy0, gy1, h69, i64_lt0, bn, m2, hIe, show ¬ nI 2 = (0 : Int32) by decide]
          rw [hmm j, e47]
          rfl
      · obtain ⟨ix, hix, eix⟩ := nI_of bn
        have l1 := nltN hix (show z < 2 ^ 31 by omega)
        have bn' : ¬ nI ix < 0 := nIM0 hix
        rw [eix] at hmm
        by_cases hl : ix < z
        · have w80 : zin? (nI (20 * sl + ix)) 80 = true := (zinN (by omega)).mpr (by omega)
          have w100 : zin? (nI (20 * sl + ix)) 100 = true := (zinN (by omega)).mpr (by omega)
          refine evO_set (k := k) (v := (s.1 1013 (20 * sl + ix)).toInt64) (sP := sI s 1007 16 (nI (hb + k))) (fits _) scC_16 c_16 hIe hP h69 hhb hp40 (by omega) ?_ (fun j => ?_)
          · rw [ea]
            simp (disch := omega) only [f91, ↓reduceIte, show ¬ (91 : Int32) = 1 by decide, show ¬ (91 : Int32) = 2 by decide, show ¬ (91 : Int32) = 5 by decide, pp, gy1, f94, f95, z4, p4, nxN, s11, s12, s13, rr2, rr3, pm, eix, bn', l1, hl, nmulL, naddN, w80, zlet]
          · have e47 : f247 n (nI v) (nI ix).toInt64 t = some (t.1 1210 (20 * sl + ix), t) := by
              simp (disch := omega) only [f247, f248, f248_33, f249, ↓reduceIte, z4, p5, nxN, ← rr1, rr2, rr4, pm, gy1, h69, i64_lt0, i64_lt, bn', l1, hl, Int32.toInt32_toInt64, nLmul, naddN, w100]
            rw [hmm j, e47, ← rr5 ix hl]
            rfl
        · refine evO_sig (w := 2) (sP := sI s 1007 16 (nI (hb + k))) (tP := sJ (sI t 1132 69 (nI 2)) 1245 k 0) (by omega) scC_16 c_16 (scE_tr scE_69 scE_45) (by rw [gJ1, hIe]) ?_ (fun j => ⟨nI (k + 1), ?_⟩)
          · rw [ea]
            simp (disch := omega) only [f91, ↓reduceIte, show ¬ (91 : Int32) = 1 by decide, show ¬ (91 : Int32) = 2 by decide, show ¬ (91 : Int32) = 5 by decide, pp, gy1, f94, f94_31, z4, p4, nxN, s11, s12, rr2, rr3, pm, eix, bn', l1, hl, show ¬ (2 : Int32) = 0 by decide]
            rfl
          · have e47 : f247 n (nI v) (nI ix).toInt64 t = some (0, sI t 1132 69 (nI 2)) := by
              simp (disch := omega) only [f247, f248, f248_28, f248_33, f249, ↓reduceIte, z4, p5, nxN, ← rr1, rr2, rr4, pm, gy0, gy1, h69, i64_lt0, i64_lt, bn', l1, hl, m2, hIe, show ¬ nI 2 = (0 : Int32) by decide]
            rw [hmm j, e47]
            rfl
  · -- size
    rw [hu3 (Or.inr (Or.inr (Or.inl q))), o1]
    obtain ⟨u, v, hu0, hv, e28, e33, ea⟩ := o2
    have z14 : zin? (nI u) 1400 = true := (zinN (by omega)).mpr hu0
    have z4 : zin? (nI v) 4 = true := (zinN (by omega)).mpr (by omega)
    obtain ⟨rr1, rr2⟩ := hW v (by omega)
    have m1 : f246 n 1 t = some (sI t 1132 69 (nI 1)) := m_sig (w := 1) h69
    have hmm : ∀ j, f243_13 n (j + 1) (nI i) (nI e) (nI (h p)) (nI p) t = yb1 (f249 n (nI v) t) fun v8 u7 => f243_257 n (f243_13 n j) (nI i) (nI e) (nI (h p)) (nI p) v8.toInt64 (nI (h p)) u7 := by
      intro j
      rw [hm j, q, show nI 3 = (3 : Int32) from rfl]
      simp (disch := omega) only [↓reduceIte, show ¬ (3 : Int32) = 7 by decide, show ¬ (3 : Int32) = 6 by decide, show ¬ (3 : Int32) = 2 by decide, show ¬ (3 : Int32) = 0 by decide, show ¬ (3 : Int32) = 1 by decide, show ¬ (3 : Int32) = 4 by decide, show ¬ (3 : Int32) = 5 by decide, r11, grd k12, e28, z14, nxN, e33]
    rcases rr2 with rr2 | ⟨sl, z, hsl, hz, rr2, rr3, rr4, rr5⟩
    · refine evO_sig (w := 1) (sP := s) (tP := sJ (sI t 1132 69 (nI 1)) 1245 (h p) 0) (by omega) scC_rf rfl (scE_tr scE_69 scE_45) (by rw [gJ1, hIe]) ?_ (fun j => ⟨nI (h p + 1), ?_⟩)
      · rw [ea]
        simp (disch := omega) only [f91, ↓reduceIte, show ¬ (142 : Int32) = 1 by decide, show ¬ (142 : Int32) = 2 by decide, show ¬ (142 : Int32) = 5 by decide, show ¬ (142 : Int32) = 91 by decide, f92, z4, nxN, rr2, gy1, zlet]
        rfl
      · have e49 : f249 n (nI v) t = some (0, sI t 1132 69 (nI 1)) := by
          simp (disch := omega) only [f249, ↓reduceIte, z4, nxN, ← rr1, rr2, m1, gy0]
        rw [hmm j, e49, gy1, m_push (by omega)]
        rfl
    · have p4 : zin? (nI sl) 4 = true := (zinN (by omega)).mpr hsl
      have p5 : zin? (nI sl) 5 = true := (zinN (by omega)).mpr (by omega)
      have pm : ¬ nI sl = -1 := fun q => (neqM (show sl < 2 ^ 31 by omega)).mp q
      refine evO_push (v := (nI z).toInt64) (fits _) hP h69 hhb hp40 ?_ (fun j => ?_)
      · rw [ea]
        simp (disch := omega) only [f91, ↓reduceIte, show ¬ (142 : Int32) = 1 by decide, show ¬ (142 : Int32) = 2 by decide, show ¬ (142 : Int32) = 5 by decide, show ¬ (142 : Int32) = 91 by decide, f92, z4, p4, nxN, rr2, rr3, pm, gy1, zlet, i64_m1 (show z < 2 ^ 31 by omega)]
      · have e49 : f249 n (nI v) t = some (nI z, t) := by
          simp (disch := omega) only [f249, ↓reduceIte, z4, p5, nxN, ← rr1, rr2, rr4, pm]
        rw [hmm j, e49]
        rfl
  · -- time
    rw [hu3 (Or.inr (Or.inr (Or.inr (Or.inl q)))), o1]
    refine evO_push (v := (s.1 1007 14).toInt64) (fits _) hP h69 hhb hp40 ?_ (fun j => ?_)
    · simp only [f91, ↓reduceIte, show ¬ (143 : Int32) = 1 by decide, show ¬ (143 : Int32) = 2 by decide, show ¬ (143 : Int32) = 5 by decide, show ¬ (143 : Int32) = 91 by decide, show ¬ (143 : Int32) = 142 by decide, zlet]
    · rw [hm j, q, hA.1]
      rfl
  · -- state
    rw [hu3 (Or.inr (Or.inr (Or.inr (Or.inr q)))), o1]
    obtain ⟨u, v, hu0, hv, e28, e33, ea⟩ := o2
    have z14 : zin? (nI u) 1400 = true := (zinN (by omega)).mpr hu0
    have z8 : zin? (nI v) 8 = true := (zinN (by omega)).mpr (by omega)
    refine evO_push (v := (s.1 (1036 + 3 * v) 3).toInt64) (fits _) hP h69 hhb hp40 ?_ (fun j => ?_)
    · rw [ea]
      simp (disch := omega) only [f91, ↓reduceIte, show ¬ (144 : Int32) = 1 by decide, show ¬ (144 : Int32) = 2 by decide, show ¬ (144 : Int32) = 5 by decide, show ¬ (144 : Int32) = 91 by decide, show ¬ (144 : Int32) = 142 by decide, show ¬ (144 : Int32) = 143 by decide, z8, nxN, rt v (by omega), grd (gck8 (show v < 8 by omega)), zlet]
    · rw [hm j, q, CL_st hcl (show v < 8 by omega), show nI 5 = (5 : Int32) from rfl]
      simp (disch := omega) only [↓reduceIte, show ¬ (5 : Int32) = 7 by decide, show ¬ (5 : Int32) = 6 by decide, show ¬ (5 : Int32) = 2 by decide, show ¬ (5 : Int32) = 0 by decide, show ¬ (5 : Int32) = 1 by decide, show ¬ (5 : Int32) = 4 by decide, r11, grd k12, e28, z14, nxN, e33, z8]
  · -- minus
    obtain ⟨w1, w2⟩ := hu1 (Or.inr q)
    obtain ⟨k, hk⟩ : ∃ k, h p = k + 1 := ⟨h p - 1, by omega⟩
    have hk2 : h (p + 1) = k + 1 := by omega
    rw [hk2, o1]
    have h16 := hP.1
    rw [hk] at h16
    have pp := c_pop (n := n) (k := hb + k) (s := s) (by rw [h16]; rfl) (by omega)
    have zk : zin? (nI k) 420 = true := (zinN (by omega)).mpr (by omega)
    have ek : nI (k + 1) - 1 = nI k := nI_pred k
    have pk := hP.2 k (by omega)
    have hcc : f91 n (1036 + 3 * i) 5 (s.1 (x + 28) p) s = f91_265 n (-(s.1 1033 (hb + k)).toInt64) (sI s 1007 16 (nI (hb + k))) := by
      simp only [f91, ↓reduceIte, show ¬ (5 : Int32) = 1 by decide, show ¬ (5 : Int32) = 2 by decide, pp, gy1, zlet]
    have hmm : ∀ j, f243_13 n (j + 1) (nI i) (nI e) (nI (h p)) (nI p) t = yb1 (f245 n (-(s.1 1033 (hb + k)).toInt64) t) fun v17 u16 => f243_13 n j (nI i) (nI e) (nI (k + 1)) (nI (p + 1)) (sJ u16 1245 k v17) := by
      intro j
      rw [hm j, q, hk, show nI 6 = (6 : Int32) from rfl]
      simp (disch := omega) only [↓reduceIte, show ¬ (6 : Int32) = 7 by decide, ek, zk, nxN, pk, zlet, f243_261, nI_1]
    by_cases fv : -(s.1 1033 (hb + k)).toInt64 = (-(s.1 1033 (hb + k)).toInt64).toInt32.toInt64
    · refine evO_set (k := k) (sP := sI s 1007 16 (nI (hb + k))) fv scC_16 c_16 hIe hP h69 hhb hp40 (by omega) hcc (fun j => ?_)
      rw [hmm j, (m_fit h69).1 fv]
      rfl
    · refine evO_sig (w := 5) (sP := sI s 1007 16 (nI (hb + k))) (tP := sJ (sI t 1132 69 (nI 5)) 1245 k (-(s.1 1033 (hb + k)).toInt64)) (by omega) scC_16 c_16 (scE_tr scE_69 scE_45) (by rw [gJ1, hIe]) (by rw [hcc, c_nofit fv]; rfl) (fun j => ⟨nI (k + 1), ?_⟩)
      rw [hmm j, (m_fit h69).2 fv]
      rfl
  · -- a sign
    obtain ⟨w1, w2⟩ := hu2 q
    obtain ⟨k, hk⟩ : ∃ k, h p = k + 2 := ⟨h p - 2, by omega⟩
    have hk2 : h (p + 1) = k + 1 := by omega
    rw [hk2]
    have h16 := hP.1
    rw [hk] at h16
    have pp := c_pop (n := n) (k := hb + k + 1) (s := s) (by rw [h16]; rfl) (by omega)
    have pp2 := c_pop (n := n) (k := hb + k) (s := sI s 1007 16 (nI (hb + k + 1))) hIe (by omega)
    rw [c_16] at pp2
    have zk : zin? (nI k) 420 = true := (zinN (by omega)).mpr (by omega)
    have zk1 : zin? (nI (k + 1)) 420 = true := (zinN (by omega)).mpr (by omega)
    have ek : nI (k + 1) - 1 = nI k := nI_pred k
    have ek2 : nI (k + 2) + -1 = nI (k + 1) := naddM (k + 1)
    have pk := hP.2 k (by omega)
    have pk1 := hP.2 (k + 1) (by omega)
    rw [← Nat.add_assoc] at pk1
    generalize ha1 : s.1 1033 (hb + k) = a1 at *
    generalize ha2 : s.1 1033 (hb + k + 1) = a2 at *
    have hmm : ∀ j, f243_13 n (j + 1) (nI i) (nI e) (nI (h p)) (nI p) t = yb1 (f244 n (s.1 (x + 27) p) a1.toInt64 a2.toInt64 t) fun v20 u19 => f243_13 n j (nI i) (nI e) (nI (k + 1)) (nI (p + 1)) (sJ u19 1245 k v20) := by
      intro j
      rw [hm j, q, hk, o1, show nI 7 = (7 : Int32) from rfl]
      simp (disch := omega) only [↓reduceIte, ek2, ek, zk, zk1, nxN, pk, pk1, zlet, f243_261, nI_1]
    have hcc : f91 n (1036 + 3 * i) (s.1 (x + 27) p) (s.1 (x + 28) p) s = (if a2.toInt64 = 0 then (if s.1 (x + 27) p = 47 then some (4, sI (sI s 1007 16 (nI (hb + k + 1))) 1007 16 (nI (hb + k))) else if s.1 (x + 27) p = 37 then some (4, sI (sI s 1007 16 (nI (hb + k + 1))) 1007 16 (nI (hb + k))) else f91_255 n (s.1 (x + 27) p) a2.toInt64 a1.toInt64 (sI (sI s 1007 16 (nI (hb + k + 1))) 1007 16 (nI (hb + k)))) else f91_255 n (s.1 (x + 27) p) a2.toInt64 a1.toInt64 (sI (sI s 1007 16 (nI (hb + k + 1))) 1007 16 (nI (hb + k)))) := by
      have ne : ∀ c : Int32, (c = 1 ∨ c = 2 ∨ c = 5 ∨ c = 91 ∨ c = 142 ∨ c = 143 ∨ c = 144) → ¬ s.1 (x + 27) p = c := by
        intro c hc e
        rw [e] at o2
        rcases hc with rfl | rfl | rfl | rfl | rfl | rfl | rfl <;> revert o2 <;> decide
      unfold f91
      rw [if_neg (ne 1 (by simp)), if_neg (ne 2 (by simp)), if_neg (ne 5 (by simp)), if_neg (ne 91 (by simp)), if_neg (ne 142 (by simp)), if_neg (ne 143 (by simp)), if_neg (ne 144 (by simp)), pp, gy1, zlet, pp2, gy1, zlet]
    have ssc : scC s (sI (sI s 1007 16 (nI (hb + k + 1))) 1007 16 (nI (hb + k))) := scC_tr scC_16 scC_16
    have ss33 : (sI (sI s 1007 16 (nI (hb + k + 1))) 1007 16 (nI (hb + k))).1 1033 = s.1 1033 := by rw [c_16, c_16]
    have hno : ∀ v, ¬ (a2.toInt64 = 0 ∧ (s.1 (x + 27) p = 47 ∨ s.1 (x + 27) p = 37)) → (∀ u, f96 n (s.1 (x + 27) p) a1.toInt64 a2.toInt64 u = some (v, u)) → f91 n (1036 + 3 * i) (s.1 (x + 27) p) (s.1 (x + 28) p) s = f91_265 n v (sI (sI s 1007 16 (nI (hb + k + 1))) 1007 16 (nI (hb + k))) := by
      intro v h0 h1
      have e55 : f91_255 n (s.1 (x + 27) p) a2.toInt64 a1.toInt64 (sI (sI s 1007 16 (nI (hb + k + 1))) 1007 16 (nI (hb + k))) = f91_265 n v (sI (sI s 1007 16 (nI (hb + k + 1))) 1007 16 (nI (hb + k))) := by
        unfold f91_255
        rw [h1]
        rfl
      rw [hcc]
      by_cases z : a2.toInt64 = 0
      · rw [if_pos z, if_neg (fun q => h0 ⟨z, Or.inl q⟩), if_neg (fun q => h0 ⟨z, Or.inr q⟩), e55]
      · rw [if_neg z, e55]
    rcases sign_ok (n := n) (t := t) (op := s.1 (x + 27) p) (a := a1) (b := a2) h69 o2 with ⟨v, fv, h0, h1, h2⟩ | ⟨v, fv, h0, h1, h2⟩ | ⟨h0, h1, h2⟩
    · refine evO_set (k := k) (sP := sI (sI s 1007 16 (nI (hb + k + 1))) 1007 16 (nI (hb + k))) fv ssc ss33 hIe hP h69 hhb hp40 (by omega) (hno v h0 h1) (fun j => ?_)
      rw [hmm j, h2]
      rfl
    · refine evO_sig (w := 5) (sP := sI (sI s 1007 16 (nI (hb + k + 1))) 1007 16 (nI (hb + k))) (tP := sJ (sI t 1132 69 (nI 5)) 1245 k v) (by omega) ssc ss33 (scE_tr scE_69 scE_45) (by rw [gJ1, hIe]) (by rw [hno v h0 h1, c_nofit fv]; rfl) (fun j => ⟨nI (k + 1), ?_⟩)
      rw [hmm j, h2]
      rfl
    · refine evO_sig (w := 4) (sP := sI (sI s 1007 16 (nI (hb + k + 1))) 1007 16 (nI (hb + k))) (tP := sJ (sI t 1132 69 (nI 4)) 1245 k 0) (by omega) ssc ss33 (scE_tr scE_69 scE_45) (by rw [gJ1, hIe]) ?_ (fun j => ⟨nI (k + 1), ?_⟩)
      · rw [hcc, if_pos h0]
        rcases h1 with h1 | h1
        · rw [if_pos h1]; rfl
        · by_cases z : s.1 (x + 27) p = 47
          · rw [if_pos z]; rfl
          · rw [if_neg z, if_pos h1]; rfl
      · rw [hmm j, h2]
        rfl
end ZEY
