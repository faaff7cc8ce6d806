/-! an irpt comes, as a whole; the acts pull and enable -/
section ZCK
variable {G W W2 : Nat → Nat → Nat} {F F2 : Nat → Nat → Nat → Nat} {B C C2 x y n i j o k v p D r : Nat} {s t s2 t2 : zσ}
theorem Nob_ag (hxx : x = 1060 ∨ x = 1096) (hN : Nob n x s) (g : ∀ a, (1015 ≤ a ∧ a ≤ 1019) ∨ 1036 ≤ a → s2.1 a = s.1 a) : Nob n x s2 := by
  have ct : ∀ k, s2.1 (1036 + 3 * k) = s.1 (1036 + 3 * k) ∧ s2.1 (1036 + 3 * k + 1) = s.1 (1036 + 3 * k + 1) := fun k => ⟨g _ (by omega), g _ (by omega)⟩
  intro j hj w2 c
  have w : wT j s := by unfold wT at w2 ⊢; rw [(ct j).1] at w2; exact w2
  have ez : zsq j s2 = zsq j s := by unfold zsq; rw [(ct j).1, (ct j).2]
  refine hN j hj w ?_
  unfold canP at c ⊢
  rw [ez, g (x + 20) (by omega), g (x + 21) (by omega), g 1016 (by omega), g 1019 (by omega)] at c
  have eb : ∀ b, bsum b s2 = bsum b s := fun b => by unfold bsum; rw [g 1017 (by omega)]
  rw [eb] at c
  rcases c with ⟨c1, c2⟩ | c | c | ⟨c1, c2, c3⟩
  · left
    refine ⟨c1, ?_⟩
    rcases f108_st (n := n) (g 1015 (by omega)) n (s.1 (x + 21) (zsq j s)) 0 with ⟨v, e1, e2⟩ | ⟨e1, e2⟩
    · have e2' : f108 n (s.1 (x + 21) (zsq j s)) s2 = some (v, s2) := e2
      rw [e2'] at c2
      have := (Prod.mk.inj (Option.some.inj c2)).1
      rw [this] at e1
      exact e1
    · have e2' : f108 n (s.1 (x + 21) (zsq j s)) s2 = none := e2
      rw [e2'] at c2
      exact absurd c2 (by simp)
  · exact Or.inr (Or.inl c)
  · exact Or.inr (Or.inr (Or.inl c))
  · refine Or.inr (Or.inr (Or.inr ⟨c1, c2, fun k hk q => c3 k hk ⟨?_, ?_⟩⟩))
    · unfold wP
      rw [(ct k).1, (ct k).2, g (x + 20) (by omega), g (x + 21) (by omega)]
      exact q.1
    · unfold zQ
      rw [(ct k).1, (ct j).1]
      exact q.2
/-- a change of irpts alone -/
theorem irp_ok (h : RUN G F W B C x y s t) (c1 : s2.2 = s.2) (c2 : ∀ a, ¬ (1027 ≤ a ∧ a ≤ 1029) → s2.1 a = s.1 a) (m1 : t2.2 = t.2) (m2 : ∀ a, ¬ (1214 ≤ a ∧ a ≤ 1216) → t2.1 a = t.1 a) (hP : rP s2 t2) : RUN G F W B C x y s2 t2 := by
  have hxx := h.1.1
  have hyy := h.1.2.1
  obtain ⟨d1, d2, d3, d4, d5, d6, d7, d8, d9, d10, d11⟩ := id h.2.2.1
  have dE := h.2.2.2.1
  refine RUNx_glob (s := s) (t := t) h ⟨c1, fun a ha => c2 a (by omega)⟩ ⟨m1, fun a q1 q2 q3 => m2 a (by omega), by rw [m2 1132 (by decide)]⟩ ⟨?_, ?_, ?_, ?_, ?_, ?_, ?_, ?_, hP, ?_, ?_⟩ ?_
  · unfold rA at d1 ⊢; simp (disch := omega) only [c2, m2]; exact d1
  · unfold rB at d2 ⊢; simp (disch := omega) only [c2, m2]; exact d2
  · unfold rV at d3 ⊢; simp (disch := omega) only [c2, m2]; exact d3
  · unfold rW at d4 ⊢; simp (disch := omega) only [c2, m2]; exact d4
  · unfold rS at d5 ⊢; simp (disch := omega) only [c2, m2]; exact d5
  · unfold rL at d6 ⊢; simp (disch := omega) only [c2, m2]; exact d6
  · unfold rI at d7 ⊢; simp (disch := omega) only [c2, m2]; exact d7
  · unfold rO at d8 ⊢; simp (disch := omega) only [c2, m2]; exact d8
  · unfold rH at d10 ⊢; simp (disch := omega) only [c2, m2]; exact d10
  · unfold rC at d11 ⊢; simp (disch := omega) only [c2, m2]; exact d11
  · unfold rE at dE ⊢; simp (disch := omega) only [c2, m2]; exact dE
/-- what an irpt's coming leaves of a ready task -/
def rdF (s t s2 t2 : zσ) : Prop := t2.1 1132 69 = t.1 1132 69 ∧ (∀ i, i < 8 → s.1 (1036 + 3 * i) 3 = 1 → s2.1 (1036 + 3 * i) 3 = 1 ∧ t2.1 1235 i = t.1 1235 i ∧ ∀ d, d < 140 → t2.1 1237 (140 * i + d) = t.1 1237 (140 * i + d))
theorem arrive_ok (hn : 1000 ≤ n) (hC : C < 899999000) (h : RUN G F W B C x y s t) (hN : Nob n x s) (hv : v < 4) : ∃ s2 t2 F2 W2 C2, f121 n (nI v) s = some (if s.1 1027 v = 0 then 0 else 1, s2) ∧ f261 n (nI v) t = some t2 ∧ RUN G F2 W2 B C2 x y s2 t2 ∧ C2 ≤ C + 16 ∧ Nob n x s2 ∧ rdF s t s2 t2 := by
  have h88 := (h.2.1.1.1 8 (by decide)).2.2
  have hxx := h.1.1
  have hyy := h.1.2.1
  have z4 : zin? (nI v) 4 = true := (zinN (by omega)).mpr hv
  have nv := nxN (show v < 2 ^ 31 by omega)
  have d9 := h.2.2.1.2.2.2.2.2.2.2.2.1
  obtain ⟨b1, b2, b3, b4, b5⟩ := d9 v hv
  unfold f121 f261
  rw [if_pos z4, if_pos z4, if_pos z4, if_pos z4, if_pos z4, if_pos z4, if_pos z4, if_pos z4, nv, ← b1, gnar1, zlet, zlet, zlet, zlet]
  by_cases q : s.1 1027 v = 0
  · rw [if_pos q, if_pos q, if_pos q]
    refine ⟨_, _, F, W, C, rfl, rfl, irp_ok h rfl (fun a ha => hIo (by omega)) rfl (fun a ha => hIo (by omega)) ?_, by omega, Nob_ag hxx hN (fun a ha => hIo (by omega)), ?_, fun i hi w => ⟨?_, ?_, fun d hd => ?_⟩⟩
    · intro k hk
      obtain ⟨a1, a2, a3, a4, a5⟩ := d9 k hk
      simp (disch := omega) only [hIo]
      by_cases e : k = v
      · subst e
        exact ⟨a1, by rw [hIe, hIe], a3, a4, Or.inr hIe⟩
      · rw [hIk e, hIk e]
        exact ⟨a1, a2, a3, a4, a5⟩
    · rw [hIo (by decide)]
    · rw [hIo (by omega)]; exact w
    · rw [hIo (by decide)]
    · rw [hIo (by decide)]
  · rw [if_neg q, if_neg q, if_neg q]
    have h1 : RUN G F W B C x y (sI s 1029 v (s.1 1029 v + 1)) (sI t 1216 v (t.1 1216 v + 1)) := by
      refine irp_ok h rfl (fun a ha => hIo (by omega)) rfl (fun a ha => hIo (by omega)) ?_
      intro k hk
      obtain ⟨a1, a2, a3, a4, a5⟩ := d9 k hk
      simp (disch := omega) only [hIo]
      by_cases e : k = v
      · subst e
        exact ⟨a1, a2, by rw [hIe, hIe, a3], a4, a5⟩
      · rw [hIk e, hIk e]
        exact ⟨a1, a2, a3, a4, a5⟩
    have hN1 : Nob n x (sI s 1029 v (s.1 1029 v + 1)) := Nob_ag hxx hN (fun a ha => hIo (by omega))
    have st1 : ∀ i, (sI s 1029 v (s.1 1029 v + 1)).1 (1036 + 3 * i) = s.1 (1036 + 3 * i) := fun i => hIo (by omega)
    have tt1 : ∀ a, a ≠ 1216 → (sI t 1216 v (t.1 1216 v + 1)).1 a = t.1 a := fun a ha => hIo ha
    generalize sI s 1029 v (s.1 1029 v + 1) = s1 at h1 hN1 st1 ⊢
    generalize sI t 1216 v (t.1 1216 v + 1) = t1 at h1 tt1 ⊢
    let L : Nat → Bool := fun k => decide (s1.1 1023 k = -2000000000 ∧ s1.1 1026 k = nI v)
    let e : Nat → Nat := fun k => if k < 2 * G 6 8 then nx (ef x (k / 2) s1) else 0
    have hL : ∀ k, k < 2 * G 6 8 → (L k = true ↔ el v k s1) := fun k _ => ⟨fun w => by have w1 := of_decide_eq_true w; exact w1, fun w => decide_eq_true (show s1.1 1023 k = -2000000000 ∧ s1.1 1026 k = nI v from w)⟩
    have hp : ∀ o, o < G 6 8 → ∃ p, p ≤ 9 ∧ ef x o s1 = nI p := by
      intro o ho
      obtain ⟨⟨p, p1, p9, pc, pm⟩, -⟩ := h1.2.1.2.1.2.2.1 o ho
      unfold ef
      by_cases w : s1.1 (1036 + 3 * o) 3 = 0
      · rw [if_pos w]; exact ⟨p, p9, pc⟩
      · rw [if_neg w]
        obtain ⟨p', l1, l2, -⟩ := pri_of h1 (show o < 8 by omega) w
        exact ⟨p', l1, l2⟩
    have he : ∀ k, k < 2 * G 6 8 → ef x (k / 2) s1 = nI (e k) ∧ e k < 2 ^ 31 := by
      intro k hk
      obtain ⟨p, p1, p2⟩ := hp (k / 2) (by omega)
      have ek : e k = p := by
        show (if k < 2 * G 6 8 then nx (ef x (k / 2) s1) else 0) = p
        rw [if_pos hk, p2, nxN (by omega)]
      rw [ek]
      exact ⟨p2, by omega⟩
    have he2 : ∀ k, e k < 2 ^ 31 := by
      intro k
      by_cases w : k < 2 * G 6 8
      · exact (he k w).2
      · show (if k < 2 * G 6 8 then nx (ef x (k / 2) s1) else 0) < 2 ^ 31
        rw [if_neg w]; decide
    have hlen : (allL L e (2 * G 6 8) 9 1).length ≤ 16 := by
      have w1 := allL_z (L := L) (e := e) (M := 2 * G 6 8) 9 1
      have w2 := zct_m (P := fun k => decide (1 ≤ e k)) (2 * G 6 8) 0
      omega
    obtain ⟨t3, a1, a2, a3, a4, -⟩ := all_m (L := L) (e := e) hn hv hL he 9 1 0 n t1 h1 (by omega) (by omega) (by omega)
    have h3 : RUN G F W B C x y s1 t3 := RUNx_sc (t := t1) scC_rf ⟨by rw [a2], fun _ _ => by rw [a2], fun a q _ q2 _ _ => by rw [a3 a q2]⟩ h1
    obtain ⟨s4, t4, F4, W4, C4, b1, b2, b3, b4, b5, b6⟩ := all_j (L := L) (e := e) (cnt := (allL L e (2 * G 6 8) 9 1).length) hn hv he2 hlen 9 1 n n 0 C F W s1 t3 h3 hN1 (fun k hk => (he k hk).1) (fun k hk w => (hL k hk).mpr w) (by omega) (by omega) (by omega) a4 (by omega) (by omega)
    refine ⟨s4, t4, F4, W4, C4, b1, ?_, b3, by omega, b5, ?_, fun i hi w => ?_⟩
    · have a1' : f261_31 n n (nI v) 0 1 t1 = f261_109 n n (nI v) (nI (0 + (allL L e (2 * G 6 8) 9 1).length)) 0 t3 := a1
      have b2' : f261_109 n n (nI v) (nI (allL L e (2 * G 6 8) 9 1).length) 0 t3 = some t4 := b2
      rw [a1', Nat.zero_add, b2']
    · rw [b6.2.2.2.2.1.1, a3 1132 (by decide), tt1 1132 (by decide)]
    · obtain ⟨g1, g2, g3⟩ := b6.2.2.2.2.2 i hi (by rw [st1]; exact w)
      refine ⟨g1, by rw [g2, a3 1235 (by decide), tt1 1235 (by decide)], fun d hd => by rw [g3 d hd, a3 1237 (by decide), tt1 1237 (by decide)]⟩
/-- after an irpt has come the task is where it was -/
theorem aH_come (h : aH G F W B C x y i D r s t) (h2 : RUN G F2 W2 B C2 x y s2 t2) (ha : s.1 (1036 + 3 * i) 3 = 1) (f : rdF s t s2 t2) : aH G F2 W2 B C2 x y i D r s2 t2 := by
  have hi := CL_i h.1
  have hD := h.1.2.2.2.2.2.2.2.2.2.1
  obtain ⟨g1, g2, g3⟩ := f.2 i hi ha
  exact aH_back h h2 (by rw [g1]; decide) g2 (g3 (D - 1) (by omega))
theorem on_4 {s1 : zσ} {C1 : Nat} (hC1 : C1 ≤ C + 40) (hb : bR B C n) (hC : C < 799999000) (h : aH G F2 W2 B C1 x y i D r s2 t2) (h69 : t2.1 1132 69 = 0) (hc : f90 n (1036 + 3 * i) (nI r) s = some (0, s1)) (hc2 : f97 n (1036 + 3 * i) (nI r) s1 = some (0, s2)) (hm : f242 n (nI i) (nI r) t = f237 n (nI i) t2) : pR G B C x y (cP n i r s) (mP n i r t) := by
  obtain ⟨s3, t3, F3, W3, C3, a1, a2, a3, a4, a5⟩ := end_on (n := n) (B := B) hb.1 (by omega) h h69
  refine ⟨s3, t3, F3, W3, B, C3, ?_, ?_, a4, by omega, by omega⟩
  · unfold cP
    rw [hc, gy1, if_pos rfl, hc2, gy1, a1]
  · unfold mP
    rw [hm, a2, gy0, if_pos a3]
theorem act_25 (hb : bR B C n) (hC : C < 799999000) (h : aH G F W B C x y i D r s t) (h69 : t.1 1132 69 = 0) (hk : G 10 r = 25) (ha : s.1 (1036 + 3 * i) 3 = 1) (hN : Nob n x s) : pR G B C x y (cP n i r s) (mP n i r t) := by
  have hr := aH_r h
  obtain ⟨hxx, hyy, r9, r11, w3, w4, w6, zr, z8, hi⟩ := aH_k h
  obtain ⟨k9, k6, k0⟩ := gck9 hxx
  have k12 := gck12 hyy
  have e15 : t.1 (y + 15) r = 25 := by rw [w4, hk]; rfl
  obtain ⟨hA, hE⟩ := tO_25 hk w6
  have c1 := work_0 hb.1 h hE
  have h2 : aH G F W B C x y i D r (sI s 1007 16 0) t := aH_sc scC_160 scM_rf h
  generalize hs2 : sI s 1007 16 0 = s2 at c1 h2
  have o1 : scC s s2 := by rw [← hs2]; exact scC_160
  have r9' : s2.2.2 1007 9 = some (x + 19) := by rw [o1.1]; exact r9
  have e20 : s2.1 (x + 19 + 1) r = 172 := by
    have : s2.1 (x + 20) r = nI 172 := zk_lit hk rfl (aH_k h2).2.2.2.2.1
    exact this
  have e242 : f242 n (nI i) (nI r) t = yb0 (f260 n (nI i) (nI r) t) fun u1 => some u1 := by
    unfold f242
    rw [r11, grd k12, if_pos zr, nxN (show r < 2 ^ 31 by omega), if_neg (show ¬ _ = (1 : Int32) by rw [e15]; decide), if_neg (show ¬ _ = (2 : Int32) by rw [e15]; decide), if_neg (show ¬ _ = (3 : Int32) by rw [e15]; decide), if_neg (show ¬ _ = (4 : Int32) by rw [e15]; decide), if_neg (show ¬ _ = (5 : Int32) by rw [e15]; decide), if_neg (show ¬ _ = (6 : Int32) by rw [e15]; decide), if_neg (show ¬ _ = (7 : Int32) by rw [e15]; decide), if_neg (show ¬ _ = (8 : Int32) by rw [e15]; decide), if_neg (show ¬ _ = (9 : Int32) by rw [e15]; decide), if_neg (show ¬ _ = (10 : Int32) by rw [e15]; decide), if_neg (show ¬ _ = (11 : Int32) by rw [e15]; decide), if_neg (show ¬ _ = (12 : Int32) by rw [e15]; decide), if_neg (show ¬ _ = (13 : Int32) by rw [e15]; decide), if_neg (show ¬ _ = (14 : Int32) by rw [e15]; decide), if_neg (show ¬ _ = (15 : Int32) by rw [e15]; decide), if_neg (show ¬ _ = (22 : Int32) by rw [e15]; decide), if_neg (show ¬ _ = (23 : Int32) by rw [e15]; decide), if_neg (show ¬ _ = (24 : Int32) by rw [e15]; decide), if_pos e15]
    rfl
  obtain ⟨u, v, hu0, hv, e17, e33, e21⟩ := hA
  have z14 : zin? (nI u) 1400 = true := (zinN (by omega)).mpr hu0
  have n33 := nxN (show u < 2 ^ 31 by omega)
  have nr := nxN (show r < 2 ^ 31 by omega)
  have hm := h.1.1.2.1.1.2.1
  have e21' : s2.1 (x + 19 + 2) r = nI v := by
    have : s2.1 (x + 21) r = s.1 (x + 21) r := by rw [scC_a o1 (by omega) (by omega) (by omega) (by omega)]
    rw [← e21]
    exact this
  have z4 : zin? (nI v) 4 = true := (zinN (by omega)).mpr (by omega)
  obtain ⟨⟨d1, d2, d3, d4, d5, d6, d7, d8, d9, d10, d11⟩, dE⟩ := aH_d h2
  have hv4 : v < 4 := by omega
  have hn := hb.1
  have ha2 : s2.1 (1036 + 3 * i) 3 = 1 := by
    rw [scC_a o1 (by omega) (by omega) (by omega) (by omega)]
    exact ha
  have hN2 : Nob n x s2 := Nob_ag hxx hN (fun a ha => scC_a o1 (by omega) (by omega) (by omega) (by omega))
  obtain ⟨s3, t3, F3, W3, C3, g1, g2, g3, g4, g5, g6⟩ := arrive_ok hn (by omega) (aH_run h2) hN2 hv4
  refine on_4 (by omega) hb hC (aH_come h2 g3 ha2 g6) (by rw [g6.1]; exact h69) c1 ?_ ?_
  · unfold f97
    rw [r9', grd k6, if_pos zr, zlet, if_pos z0_64, zlet, grd k6, if_pos zr, nxN (show r < 2 ^ 31 by omega), x0_n, if_neg (show ¬ _ = (1 : Int32) by rw [e20]; decide), if_neg (show ¬ _ = (91 : Int32) by rw [e20]; decide), if_neg (show ¬ _ = (149 : Int32) by rw [e20]; decide), if_neg (show ¬ _ = (150 : Int32) by rw [e20]; decide), if_neg (show ¬ _ = (151 : Int32) by rw [e20]; decide), if_neg (show ¬ _ = (152 : Int32) by rw [e20]; decide), if_neg (show ¬ _ = (154 : Int32) by rw [e20]; decide), if_neg (show ¬ _ = (155 : Int32) by rw [e20]; decide), if_neg (show ¬ _ = (156 : Int32) by rw [e20]; decide), if_neg (show ¬ _ = (157 : Int32) by rw [e20]; decide), if_neg (show ¬ _ = (158 : Int32) by rw [e20]; decide), if_neg (show ¬ _ = (159 : Int32) by rw [e20]; decide), if_neg (show ¬ _ = (160 : Int32) by rw [e20]; decide), if_neg (show ¬ _ = (161 : Int32) by rw [e20]; decide), if_neg (show ¬ _ = (162 : Int32) by rw [e20]; decide), if_neg (show ¬ _ = (163 : Int32) by rw [e20]; decide), if_neg (show ¬ _ = (164 : Int32) by rw [e20]; decide), if_neg (show ¬ _ = (165 : Int32) by rw [e20]; decide), if_neg (show ¬ _ = (166 : Int32) by rw [e20]; decide), if_pos e20, e21', g1, gy1]
  · rw [e242, gyS]
    unfold f260
    rw [r11, grd k12, if_pos zr, zlet, nr, if_neg (show ¬ _ = (22 : Int32) by rw [e15]; decide), if_neg (show ¬ _ = (28 : Int32) by rw [e15]; decide), grd k12, grd k12, if_pos zr, e17, if_pos z14, n33, e33, zlet, if_pos e15, g2, gy0]
    unfold f260_210
    rw [gyS]
theorem act_26 (hb : bR B C n) (hC : C < 799999000) (h : aH G F W B C x y i D r s t) (h69 : t.1 1132 69 = 0) (hk : G 10 r = 26) (ha : s.1 (1036 + 3 * i) 3 = 1) (hN : Nob n x s) : pR G B C x y (cP n i r s) (mP n i r t) := by
  have hr := aH_r h
  obtain ⟨hxx, hyy, r9, r11, w3, w4, w6, zr, z8, hi⟩ := aH_k h
  obtain ⟨k9, k6, k0⟩ := gck9 hxx
  have k12 := gck12 hyy
  have e15 : t.1 (y + 15) r = 26 := by rw [w4, hk]; rfl
  obtain ⟨hA, hE⟩ := tO_26 hk w6
  have c1 := work_0 hb.1 h hE
  have h2 : aH G F W B C x y i D r (sI s 1007 16 0) t := aH_sc scC_160 scM_rf h
  generalize hs2 : sI s 1007 16 0 = s2 at c1 h2
  have o1 : scC s s2 := by rw [← hs2]; exact scC_160
  have r9' : s2.2.2 1007 9 = some (x + 19) := by rw [o1.1]; exact r9
  have e20 : s2.1 (x + 19 + 1) r = 173 := by
    have : s2.1 (x + 20) r = nI 173 := zk_lit hk rfl (aH_k h2).2.2.2.2.1
    exact this
  have e242 : f242 n (nI i) (nI r) t = yb0 (f260 n (nI i) (nI r) t) fun u1 => some u1 := by
    unfold f242
    rw [r11, grd k12, if_pos zr, nxN (show r < 2 ^ 31 by omega), if_neg (show ¬ _ = (1 : Int32) by rw [e15]; decide), if_neg (show ¬ _ = (2 : Int32) by rw [e15]; decide), if_neg (show ¬ _ = (3 : Int32) by rw [e15]; decide), if_neg (show ¬ _ = (4 : Int32) by rw [e15]; decide), if_neg (show ¬ _ = (5 : Int32) by rw [e15]; decide), if_neg (show ¬ _ = (6 : Int32) by rw [e15]; decide), if_neg (show ¬ _ = (7 : Int32) by rw [e15]; decide), if_neg (show ¬ _ = (8 : Int32) by rw [e15]; decide), if_neg (show ¬ _ = (9 : Int32) by rw [e15]; decide), if_neg (show ¬ _ = (10 : Int32) by rw [e15]; decide), if_neg (show ¬ _ = (11 : Int32) by rw [e15]; decide), if_neg (show ¬ _ = (12 : Int32) by rw [e15]; decide), if_neg (show ¬ _ = (13 : Int32) by rw [e15]; decide), if_neg (show ¬ _ = (14 : Int32) by rw [e15]; decide), if_neg (show ¬ _ = (15 : Int32) by rw [e15]; decide), if_neg (show ¬ _ = (22 : Int32) by rw [e15]; decide), if_neg (show ¬ _ = (23 : Int32) by rw [e15]; decide), if_neg (show ¬ _ = (24 : Int32) by rw [e15]; decide), if_neg (show ¬ _ = (25 : Int32) by rw [e15]; decide), if_pos e15]
    rfl
  obtain ⟨u, v, hu0, hv, e17, e33, e21⟩ := hA
  have z14 : zin? (nI u) 1400 = true := (zinN (by omega)).mpr hu0
  have n33 := nxN (show u < 2 ^ 31 by omega)
  have nr := nxN (show r < 2 ^ 31 by omega)
  have hm := h.1.1.2.1.1.2.1
  have e21' : s2.1 (x + 19 + 2) r = nI v := by
    have : s2.1 (x + 21) r = s.1 (x + 21) r := by rw [scC_a o1 (by omega) (by omega) (by omega) (by omega)]
    rw [← e21]
    exact this
  have z4 : zin? (nI v) 4 = true := (zinN (by omega)).mpr (by omega)
  obtain ⟨⟨d1, d2, d3, d4, d5, d6, d7, d8, d9, d10, d11⟩, dE⟩ := aH_d h2
  have hv4 : v < 4 := by omega
  have hn := hb.1
  have nv := nxN (show v < 2 ^ 31 by omega)
  have ha2 : s2.1 (1036 + 3 * i) 3 = 1 := by
    rw [scC_a o1 (by omega) (by omega) (by omega) (by omega)]
    exact ha
  have hN2 : Nob n x s2 := Nob_ag hxx hN (fun a ha => scC_a o1 (by omega) (by omega) (by omega) (by omega))
  have hR := aH_run h2
  have d9 := hR.2.2.1.2.2.2.2.2.2.2.2.1
  obtain ⟨p1, p2, p3, p4, p5⟩ := d9 v hv4
  have h3 : RUN G (Ft F i D r) W B C x y (sI s2 1027 v 1) (sI t 1214 v 1) := by
    refine irp_ok hR rfl (fun a ha => hIo (by omega)) rfl (fun a ha => hIo (by omega)) ?_
    intro k hk
    obtain ⟨a1, a2, a3, a4, a5⟩ := d9 k hk
    simp (disch := omega) only [hIo]
    by_cases e : k = v
    · subst e
      exact ⟨by rw [hIe, hIe], a2, a3, Or.inr hIe, a5⟩
    · rw [hIk e, hIk e]
      exact ⟨a1, a2, a3, a4, a5⟩
  have e97 : f97 n (1036 + 3 * i) (nI r) s2 = f122 n (nI v) s2 := by
    unfold f97
    rw [r9', grd k6, if_pos zr, zlet, if_pos z0_64, zlet, grd k6, if_pos zr, nxN (show r < 2 ^ 31 by omega), x0_n, if_neg (show ¬ _ = (1 : Int32) by rw [e20]; decide), if_neg (show ¬ _ = (91 : Int32) by rw [e20]; decide), if_neg (show ¬ _ = (149 : Int32) by rw [e20]; decide), if_neg (show ¬ _ = (150 : Int32) by rw [e20]; decide), if_neg (show ¬ _ = (151 : Int32) by rw [e20]; decide), if_neg (show ¬ _ = (152 : Int32) by rw [e20]; decide), if_neg (show ¬ _ = (154 : Int32) by rw [e20]; decide), if_neg (show ¬ _ = (155 : Int32) by rw [e20]; decide), if_neg (show ¬ _ = (156 : Int32) by rw [e20]; decide), if_neg (show ¬ _ = (157 : Int32) by rw [e20]; decide), if_neg (show ¬ _ = (158 : Int32) by rw [e20]; decide), if_neg (show ¬ _ = (159 : Int32) by rw [e20]; decide), if_neg (show ¬ _ = (160 : Int32) by rw [e20]; decide), if_neg (show ¬ _ = (161 : Int32) by rw [e20]; decide), if_neg (show ¬ _ = (162 : Int32) by rw [e20]; decide), if_neg (show ¬ _ = (163 : Int32) by rw [e20]; decide), if_neg (show ¬ _ = (164 : Int32) by rw [e20]; decide), if_neg (show ¬ _ = (165 : Int32) by rw [e20]; decide), if_neg (show ¬ _ = (166 : Int32) by rw [e20]; decide), if_neg (show ¬ _ = (172 : Int32) by rw [e20]; decide), if_pos e20, e21', gyT]
  have e122 : f122 n (nI v) s2 = (if s2.1 1028 v = 0 then some ((0 : Int32), sI s2 1027 v 1) else yb1 (f121 n (nI v) (sI (sI s2 1027 v 1) 1028 v 0)) fun v4 u3 => some ((0 : Int32), u3)) := by
    unfold f122
    rw [if_pos z4, nv, gnar1, zlet, if_pos z4, if_pos z4, gnar0, zlet, hIo (by decide)]
  have eM : f242 n (nI i) (nI r) t = (if t.1 1215 v = 0 then f237 n (nI i) (sI t 1214 v 1) else yb0 (f261 n (nI v) (sI (sI t 1214 v 1) 1215 v 0)) fun u8 => f237 n (nI i) u8) := by
    rw [e242, gyS]
    unfold f260
    rw [r11, grd k12, if_pos zr, zlet, nr, if_neg (show ¬ _ = (22 : Int32) by rw [e15]; decide), if_neg (show ¬ _ = (28 : Int32) by rw [e15]; decide), grd k12, grd k12, if_pos zr, e17, if_pos z14, n33, e33, zlet, if_neg (show ¬ _ = (25 : Int32) by rw [e15]; decide), if_neg (show ¬ _ = (27 : Int32) by rw [e15]; decide), if_pos z4, nv, gnar1, zlet, if_pos z4, if_pos z4, gnar0, zlet, hIo (by decide)]
    unfold f260_210
    simp only [gyS]
  have rd3 : rdF s2 t (sI s2 1027 v 1) (sI t 1214 v 1) := by
    refine ⟨by rw [hIo (by decide)], fun k hk w => ⟨by rw [hIo (by omega)]; exact w, by rw [hIo (by decide)], fun d hd => by rw [hIo (by decide)]⟩⟩
  by_cases q : s2.1 1028 v = 0
  · rw [if_pos q] at e122
    rw [← p2, if_pos q] at eM
    exact on_4 (by omega) hb hC (aH_come h2 h3 ha2 rd3) (by rw [hIo (by decide)]; exact h69) c1 (by rw [e97, e122]) eM
  · rw [if_neg q] at e122
    rw [← p2, if_neg q] at eM
    have h4 : RUN G (Ft F i D r) W B C x y (sI (sI s2 1027 v 1) 1028 v 0) (sI (sI t 1214 v 1) 1215 v 0) := by
      refine irp_ok h3 rfl (fun a ha => hIo (by omega)) rfl (fun a ha => hIo (by omega)) ?_
      intro k hk
      obtain ⟨a1, a2, a3, a4, a5⟩ := h3.2.2.1.2.2.2.2.2.2.2.2.1 k hk
      simp (disch := omega) only [hIo] at a1 a2 a3 a4 a5 ⊢
      by_cases e : k = v
      · subst e
        exact ⟨a1, by rw [hIe, hIe], a3, a4, Or.inl hIe⟩
      · simp only [hIk e] at a1 a4 ⊢
        exact ⟨a1, a2, a3, a4, a5⟩
    have hN4 : Nob n x (sI (sI s2 1027 v 1) 1028 v 0) := Nob_ag hxx hN2 (fun a ha => by rw [hIo (by omega), hIo (by omega)])
    obtain ⟨s5, t5, F5, W5, C5, g1, g2, g3, g4, g5, g6⟩ := arrive_ok hn (by omega) h4 hN4 hv4
    have rd5 : rdF s2 t s5 t5 := by
      refine ⟨by rw [g6.1, hIo (by decide), hIo (by decide)], fun k hk w => ?_⟩
      obtain ⟨u1, u2, u3⟩ := g6.2 k hk (by rw [hIo (by omega), hIo (by omega)]; exact w)
      exact ⟨u1, by rw [u2, hIo (by decide), hIo (by decide)], fun d hd => by rw [u3 d hd, hIo (by decide), hIo (by decide)]⟩
    exact on_4 (by omega) hb hC (aH_come h2 g3 ha2 rd5) (by rw [rd5.1]; exact h69) c1 (by rw [e97, e122, g1, gy1]) (by rw [eM, g2, gy0])
end ZCK
