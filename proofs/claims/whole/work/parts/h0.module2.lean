/-! module: the pair of calls -/
section ZSE
variable {G W W2 : Nat → Nat → Nat} {F F2 : Nat → Nat → Nat → Nat} {B C x y n c z f : Nat} {s t s2 t2 s3 t3 : zσ} {U : Nat → Nat} {len : Nat}
theorem Nob_ag2 (hxx : x = 1060 ∨ x = 1096) (hN : Nob n x s) (g : ∀ a, (1015 ≤ a ∧ a ≤ 1019) ∨ (1036 ≤ a ∧ a < 1060) ∨ a = x + 20 ∨ a = x + 21 → s2.1 a = s.1 a) : Nob n x s2 := by
  have ct : ∀ k, k < 8 → s2.1 (1036 + 3 * k) = s.1 (1036 + 3 * k) ∧ s2.1 (1036 + 3 * k + 1) = s.1 (1036 + 3 * k + 1) := fun k hk => ⟨g _ (by omega), g _ (by omega)⟩
  intro j hj w2 c
  have w : wT j s := by unfold wT at w2 ⊢; rw [(ct j hj).1] at w2; exact w2
  have ez : zsq j s2 = zsq j s := by unfold zsq; rw [(ct j hj).1, (ct j hj).2]
  refine hN j hj w ?_
  unfold canP at c ⊢
  rw [ez, g (x + 20) (by omega), g (x + 21) (by omega), g 1016 (by omega), g 1019 (by omega)] at c
  have eb : ∀ b, bsum b s2 = bsum b s := fun b => by unfold bsum; rw [g 1017 (by omega)]
  rw [eb] at c
  rcases c with ⟨c1, c2⟩ | c | c | ⟨c1, c2, c3⟩
  · left
    refine ⟨c1, ?_⟩
    rcases f108_st (n := n) (g 1015 (by omega)) n (s.1 (x + 21) (zsq j s)) 0 with ⟨v, e1, e2⟩ | ⟨e1, e2⟩
    · have e2' : f108 n (s.1 (x + 21) (zsq j s)) s2 = some (v, s2) := e2
      rw [e2'] at c2
      have := (Prod.mk.inj (Option.some.inj c2)).1
      rw [this] at e1
      exact e1
    · have e2' : f108 n (s.1 (x + 21) (zsq j s)) s2 = none := e2
      rw [e2'] at c2
      exact absurd c2 (by simp)
  · exact Or.inr (Or.inl c)
  · exact Or.inr (Or.inr (Or.inl c))
  · refine Or.inr (Or.inr (Or.inr ⟨c1, c2, fun k hk q => c3 k hk ⟨?_, ?_⟩⟩))
    · unfold wP
      rw [(ct k hk).1, (ct k hk).2, g (x + 20) (by omega), g (x + 21) (by omega)]
      exact q.1
    · unfold zQ
      rw [(ct k hk).1, (ct j hj).1]
      exact q.2
/-- what a text that is read leaves alone: the class's, the reference's -/
def mfC (x : Nat) (s s3 : zσ) : Prop := (∀ a, a ≠ 1000 → a ≠ 1001 → a ≠ 1004 → a ≠ 1005 → a ≠ 1007 → (a < x ∨ x + 35 < a) → s3.1 a = s.1 a) ∧ (∀ a, a ≠ 1001 → a ≠ 1006 → (a < x + 2 ∨ x + 10 < a) → s3.2.1 a = s.2.1 a) ∧ (∀ a, a ≠ 1000 → a ≠ 1004 → s3.2.2 a = s.2.2 a)
def mfM (y : Nat) (t t3 : zσ) : Prop := (∀ a, a ≠ 1132 → (a < y ∨ y + 35 < a) → t3.1 a = t.1 a) ∧ (∀ a, a ≠ 1132 → a ≠ y + 1 → a ≠ y + 12 → a ≠ y + 29 → t3.2.1 a = t.2.1 a) ∧ (∀ k, 18 ≤ k → t3.1 1132 k = t.1 1132 k)
/-- KZ behind a text: x1, y1 the current texts then -/
theorem KZ_mod {G2 : Nat → Nat → Nat} {x1 y1 : Nat} (h : KZ G C x y s t) (hc : mfC (2156 - x) s s3) (hm : mfM (2304 - y) t t3) (hx1 : x1 = 1060 ∨ x1 = 1096) (hy1 : y1 = 1134 ∨ y1 = 1170) (hr : s3.2.2 1000 3 = some x1 ∧ s3.2.2 1000 4 = some (2156 - x1) ∧ t3.2.2 1132 11 = some y1 ∧ t3.2.2 1132 12 = some (2304 - y1)) (h6 : s3.1 1000 6 = nI (G2 23 1) ∧ t3.1 1132 2 = nI (G2 23 1)) (h7 : s3.1 1000 7 = s.1 1000 7) (g2 : G2 23 2 = G 23 2) (g0 : G2 23 0 = 0) (h0 : s3.1 1001 2 = 0 ∧ t3.1 1132 1 = 0) (hv : ∀ k, k < 4 → ∃ v, v < 2 ^ 31 ∧ t3.1 (2304 - y1 + 6) k = nI v) : KZ G2 C x1 y1 s3 t3 := by
  obtain ⟨k1, k2, k3, -, ⟨k5, k5b, k5c⟩, -, ⟨z1, z2, -⟩, k8, k9⟩ := h
  obtain ⟨c1, c2, c3⟩ := hc
  obtain ⟨m1, m2, m3⟩ := hm
  refine ⟨hx1, hy1, hr, h6, ?_, ?_, ⟨fun i hi => ?_, fun k hk => ?_, hv⟩, fun i hi => ?_, ?_⟩
  · rw [g2, h7, m3 18 (by decide)]
    exact ⟨k5, k5b, k5c⟩
  · rw [g0]
    exact ⟨h0.1, h0.2, Nat.zero_le _, fun k hk => absurd hk (Nat.not_lt_zero k)⟩
  · rw [c2 1003 (by decide) (by decide) (by omega)]
    exact z1 i hi
  · rw [m1 1206 (by decide) (by omega), c3 1061 (by decide) (by decide), c3 1097 (by decide) (by decide)]
    exact z2 k hk
  · rw [c3 1008 (by decide) (by decide), c1 _ (by omega) (by omega) (by omega) (by omega) (by omega) (by omega)]
    exact k8 i hi
  · unfold rE at k9 ⊢
    rw [c1 1030 (by decide) (by decide) (by decide) (by decide) (by decide) (by omega), c1 1009 (by decide) (by decide) (by decide) (by decide) (by decide) (by omega), m3 29 (by decide), m3 28 (by decide), m3 30 (by decide)]
    exact k9
/-- a text with a fault: all but the tape and the place is as it was -/
theorem Rel_mod (e1 : C ≤ 200000 * c) (hK : KZ G C x y s t) (e3 : (s.1 1000 5 = 0 ∧ t.1 1132 13 = 0 ∧ emp x s ∧ s.1 1007 11 = 0 ∧ t.1 1132 17 = 0 ∧ ∀ k, k < 4 → ∃ v, v < 2 ^ 31 ∧ t.1 (y + 6) k = nI v) ∨ (s.1 1000 5 = 1 ∧ t.1 1132 13 = 1 ∧ TX G x y s t ∧ s.1 1007 11 = 0 ∧ t.1 1132 17 = 0) ∨ (∃ F W B a b, B ≤ 2000 * c ∧ RUN (Gh G a b 0) F W B C x y s t ∧ Nob 1000 x s)) (hc : mfC (2156 - x) s s3) (hm : mfM (2304 - y) t t3) (r1 : s3.2.2 1000 = s.2.2 1000) (r2 : t3.2.2 = t.2.2) (h6 : s3.1 1000 6 = nI z ∧ t3.1 1132 2 = nI z) (h57 : s3.1 1000 5 = s.1 1000 5 ∧ s3.1 1000 7 = s.1 1000 7) (h0 : s3.1 1001 2 = 0 ∧ t3.1 1132 1 = 0) (h07 : s3.1 1007 = s.1 1007) (h13 : ∀ k, k = 13 ∨ 16 ≤ k → t3.1 1132 k = t.1 1132 k) (hv : ∀ k, k < 4 → ∃ v, v < 2 ^ 31 ∧ t3.1 (2304 - y + 6) k = nI v) : Rel c s3 t3 := by
  have kz : KZ (Gz G (fun i => if i = 0 then 0 else if i = 1 then z else G 23 i)) C x y s3 t3 := by
    have hr := hK.2.2.1
    refine KZ_mod hK hc hm hK.1 hK.2.1 ?_ h6 h57.2 rfl rfl h0 hv
    rw [r1, r2]; exact hr
  have hx := hK.1
  have hy := hK.2.1
  obtain ⟨c1, c2, c3⟩ := hc
  obtain ⟨m1, m2, m3⟩ := hm
  have cX : ∀ k, k ≤ 35 → s3.1 (x + k) = s.1 (x + k) := fun k _ => c1 _ (by omega) (by omega) (by omega) (by omega) (by omega) (by omega)
  have cJ : ∀ k, k < 9 → s3.2.1 (x + 2 + k) = s.2.1 (x + 2 + k) := fun k _ => c2 _ (by omega) (by omega) (by omega)
  have mX : ∀ k, k ≤ 35 → t3.1 (y + k) = t.1 (y + k) := fun k _ => m1 _ (by omega) (by omega)
  have mJ : t3.2.1 (y + 1) = t.2.1 (y + 1) := m2 _ (by omega) (by omega) (by omega) (by omega)
  have e13 : t3.1 1132 13 = t.1 1132 13 := h13 13 (by decide)
  have e17 : t3.1 1132 17 = t.1 1132 17 := h13 17 (by decide)
  refine ⟨Gz G (fun i => if i = 0 then 0 else if i = 1 then z else G 23 i), x, y, C, e1, kz, ?_⟩
  rcases e3 with ⟨q1, q2, ⟨q3, q4, q5⟩, q6, q7, q8⟩ | ⟨q1, q2, q3, q6, q7⟩ | ⟨F, W, B, a, b, b1, b2, b3⟩
  · exact Or.inl ⟨by rw [h57.1]; exact q1, by rw [e13]; exact q2, ⟨fun k hk => by rw [cX 11 (by decide)]; exact q3 k hk, by rw [cX 19 (by decide)]; exact q4, by rw [cX 19 (by decide)]; exact q5⟩, by rw [h07]; exact q6, by rw [e17]; exact q7, fun k hk => by rw [mX 6 (by decide)]; exact q8 k hk⟩
  · exact Or.inr (Or.inl ⟨by rw [h57.1]; exact q1, by rw [e13]; exact q2, TX_Gz (TX_fr2 cX cJ mX mJ q3), by rw [h07]; exact q6, by rw [e17]; exact q7⟩)
  · refine Or.inr (Or.inr ⟨F, W, B, a, b, b1, ?_, Nob_ag2 hx b3 (fun a ha => c1 a (by omega) (by omega) (by omega) (by omega) (by omega) (by omega))⟩)
    have kz' := kz
    obtain ⟨-, -, ⟨y1, y2, y3, y4⟩, y5, y6, y7, y8, y9, y10⟩ := kz'
    obtain ⟨z1, z2, z3, z4, z5, z6, z7, z8, z9, z10, z11, z12⟩ := b2.1.2.2.1.2
    have c07 : ∀ a, 1007 ≤ a → a < 1060 → s3.1 a = s.1 a := fun a q1 q2 => by
      by_cases e : a = 1007
      · rw [e]; exact h07
      · exact c1 a (by omega) (by omega) (by omega) (by omega) e (by omega)
    have := RUN_out (h' := fun i => if i = 0 then 0 else if i = 1 then z else G 23 i) (s2 := s3) (t2 := t3) b2 (fun a ha => c3 a (by omega) (by omega)) c07 cX cJ (by rw [r2]) (fun a q => m1 a (by omega) (by omega)) mX mJ (fun k q => h13 k (by omega)) ⟨y7.2.1, y5.2, y6.2.1⟩ ⟨y1, y2, y4, by rw [h57.1]; exact z4, y5.1, y6.1, y6.2.2.1, y6.2.2.2, y7.1, y7.2.2.1, y7.2.2.2, y8⟩
    rw [Gz_Gh] at this
    exact this
/-- the spare place of the semas' starts, of the text that goes -/
theorem Rel_y6 (e3 : (s.1 1000 5 = 0 ∧ t.1 1132 13 = 0 ∧ emp x s ∧ s.1 1007 11 = 0 ∧ t.1 1132 17 = 0 ∧ ∀ k, k < 4 → ∃ v, v < 2 ^ 31 ∧ t.1 (y + 6) k = nI v) ∨ (s.1 1000 5 = 1 ∧ t.1 1132 13 = 1 ∧ TX G x y s t ∧ s.1 1007 11 = 0 ∧ t.1 1132 17 = 0) ∨ (∃ F W B a b, B ≤ 2000 * c ∧ RUN (Gh G a b 0) F W B C x y s t ∧ Nob 1000 x s)) : ∀ k, k < 4 → ∃ v, v < 2 ^ 31 ∧ t.1 (y + 6) k = nI v := by
  have tx : ∀ G', TX G' x y s t → ∀ k, k < 4 → ∃ v, v < 2 ^ 31 ∧ t.1 (y + 6) k = nI v := fun G' h k hk => (h.2.1.2.1 k hk).2.1
  rcases e3 with ⟨-, -, -, -, -, q8⟩ | ⟨-, -, q3, -⟩ | ⟨F, W, B, a, b, b1, b2, b3⟩
  · exact q8
  · exact tx _ q3
  · exact tx _ (KB_iff.mp (KB_run b2)).2.2.2
theorem c_20f {v : Int32} (hx : x = 1060 ∨ x = 1096) (h4 : s.2.2 1000 4 = some x) (e : f21 n x s = some (v, s2)) (hv : ¬ v = 0) : f20 n s = some (-10 - v, sI (sI s2 1001 2 0) 1000 6 (s2.1 1004 11)) := by
  unfold f20
  rw [h4, grd (gck9 hx).1, e, yb1_s]
  simp only [zlet]
  rw [if_neg hv, hIo (by decide)]
theorem c_20s {x' : Nat} (hx : x = 1060 ∨ x = 1096) (hx' : x' = 1060 ∨ x' = 1096) (h4 : s.2.2 1000 4 = some x) (e : f21 n x s = some (0, s2)) (r3 : s2.2.2 1000 3 = some x') (r4 : s2.2.2 1000 4 = some x) : f20 n s = some (s2.1 (x + 11) 8, sI (sI (sI (sR (sR (sI s2 1001 2 0) 1000 3 (some x)) 1000 4 (some x')) 1000 5 1) 1000 6 (-1)) 1007 11 0) := by
  have e3 : (sI (sI (sI (sR (sR (sI s2 1001 2 0) 1000 3 (some x)) 1000 4 (some x')) 1000 5 1) 1000 6 (-1)) 1007 11 0).2.2 1000 3 = some x := by
    show (sR (sR (sI s2 1001 2 0) 1000 3 (some x)) 1000 4 (some x')).2.2 1000 3 = some x
    rw [rRk (by decide), rRe]
  unfold f20
  rw [h4, grd (gck9 hx).1, e, yb1_s, zlet, if_pos rfl]
  show zrd 9 (s2.2.2 1000 3) _ = _
  rw [r3, grd (gck9 hx').1]
  show zrd 9 (s2.2.2 1000 4) _ = _
  rw [r4, grd (gck9 hx).1, zlet, zlet, zlet, zlet, zlet, e3, grd (gck9 hx).1, if_pos (show zin? 8 9 = true from by decide), show nx 8 = 8 from by decide, hIo (by omega), hIo (by omega), hIo (by omega)]
  show some ((sI s2 1001 2 0).1 (x + 11) 8, _) = _
  rw [hIo (by omega)]
theorem m_117s {y' : Nat} (hy' : y' = 1134 ∨ y' = 1170) (hy : y = 1134 ∨ y = 1170) (h9 : t2.1 1132 9 = 0) (r11 : t2.2.2 1132 11 = some y') : f163_117 n y t2 = some (t2.1 (y + 4) 8, sI (sI (sR (sR (sI (sI t2 1132 1 0) 1132 2 (-1)) 1132 12 (some y')) 1132 11 (some y)) 1132 13 1) 1132 17 0) := by
  unfold f163_117
  rw [zlet, if_pos (by rw [hIk (by decide)]; exact h9), zlet]
  show zrd 12 (t2.2.2 1132 11) _ = _
  rw [r11, grd (gck12 hy'), zlet, zlet, zlet, zlet, if_pos (show zin? 8 9 = true from by decide), show nx 8 = 8 from by decide, hIo (by omega), hIo (by omega)]
  show some ((sI (sI t2 1132 1 0) 1132 2 (-1)).1 (y + 4) 8, _) = _
  rw [hIo (by omega), hIo (by omega)]
theorem pc_module : pc c (fun n s => f20 n s) (fun n s => f163 n s) := by
  intro s t h
  obtain ⟨G, x, y, C, e1, hK, e3⟩ := h
  have hK' := hK
  obtain ⟨hx, hy, ⟨z1, z2, z3, z4⟩, -, -, ⟨k1, k2, k3, k4⟩, ⟨w1, w2, w3⟩, -, -⟩ := hK'
  obtain ⟨xx, hxx⟩ : ∃ xx, xx = 2156 - x := ⟨_, rfl⟩
  obtain ⟨yy, hyy⟩ : ∃ yy, yy = 2304 - y := ⟨_, rfl⟩
  have hx' : xx = 1060 ∨ xx = 1096 := by omega
  have hy' : yy = 1134 ∨ yy = 1170 := by omega
  rw [← hxx] at z2
  rw [← hyy] at z4 w3
  have hU : ∀ k, k < G 23 0 → nx (t.1 1133 k) < 256 ∧ s.1 1002 k = sb (nx (t.1 1133 k)) ∧ t.1 1133 k = nI (nx (t.1 1133 k)) := fun k hk => by
    obtain ⟨w, q1, q2, q3⟩ := k4 k hk
    rw [q3, nx_nI (by omega)]
    exact ⟨q1, q2, rfl⟩
  have hT : txC (fun k => nx (t.1 1133 k)) (G 23 0) s := ⟨k3, k1, fun i hi => ⟨(hU i hi).1, (hU i hi).2.1⟩⟩
  have hM : txM (fun k => nx (t.1 1133 k)) (G 23 0) t := ⟨k3, k2, fun i hi => ⟨(hU i hi).1, (hU i hi).2.2⟩⟩
  have hr : ∀ c, c < 9 → s.2.2 (xx + 1) c = some (xx + 2 + c) := by
    intro c hc
    rcases hx' with e | e
    · rw [e]; exact (w2 c hc).2.1
    · rw [e]; exact (w2 c hc).2.2
  obtain ⟨s1, s2, ⟨f1, f2, f3⟩, gc, hO⟩ := module_main (n := 5000) (Nat.le_refl _) hx' hy' hT w1 hM hr z4 (fun k hk => (w2 k hk).1) w3
  have sFr : ∀ a, a ≠ 1001 → a ≠ 1004 → a ≠ 1005 → (a < xx ∨ xx + 35 < a) → s2.1 a = s.1 a := fun a p1 p2 p3 p4 => (gc.1 a p1 p2 p3 p4).trans (f1 a p2 (by omega))
  have sJ2 : ∀ a, a ≠ 1001 → a ≠ 1006 → (a < xx + 2 ∨ xx + 10 < a) → s2.2.1 a = s.2.1 a := fun a p1 p2 p3 => (gc.2.1 a p1 p2 p3).trans (by rw [f2])
  have sR2 : ∀ a, a ≠ 1004 → s2.2.2 a = s.2.2 a := fun a p => by rw [gc.2.2]; exact f3 a p
  refine ⟨5000, 5000, ?_⟩
  rcases hO with ⟨f, z, t2, hf, eC, h11, eM, gm⟩ | ⟨G2, t2, eC, eM, h9, gm, hX⟩
  · have nf : ¬ nI f = 0 := fun e => by
      have := (nIe (u := f) (k := 0) (by omega) (by omega)).mp e
      omega
    have eC2 := c_20f hx' z2 eC nf
    rw [h11] at eC2
    refine ⟨-10 - nI f, _, _, eC2, eM, Rel_up (Rel_mod (z := z) e1 hK e3 ?_ ?_ ?_ ?_ ?_ ?_ ?_ ?_ ?_ ?_) (Nat.le_succ _)⟩
    · rw [← hxx]
      exact ⟨fun a p1 p2 p3 p4 p5 p6 => by rw [hIo p1, hIo p2]; exact sFr a p2 p3 p4 p6, fun a p1 p2 p3 => sJ2 a p1 p2 p3, fun a p1 p2 => sR2 a p2⟩
    · rw [← hyy]
      exact ⟨fun a p1 p2 => by rw [hIo p1, hIo p1]; exact gm.1 a p1 p2, fun a p1 p2 p3 p4 => gm.2.1 a p1 p2 p3 p4, fun k hk => by rw [hIk (by omega), hIk (by omega)]; exact gm.2.2.2.1 k (by omega)⟩
    · exact sR2 1000 (by decide)
    · exact gm.2.2.1
    · exact ⟨hIe, hIe⟩
    · exact ⟨by rw [hIk (by decide), hIo (by decide), sFr 1000 (by decide) (by decide) (by decide) (by omega)], by rw [hIk (by decide), hIo (by decide), sFr 1000 (by decide) (by decide) (by decide) (by omega)]⟩
    · exact ⟨by rw [hIo (by decide), hIe], by rw [hIk (by decide), hIe]⟩
    · rw [hIo (by decide), hIo (by decide)]
      exact sFr 1007 (by decide) (by decide) (by decide) (by omega)
    · exact fun k hk => by rw [hIk (by omega), hIk (by omega)]; exact gm.2.2.2.1 k (by omega)
    · intro k hk
      rw [← hyy, hIo (by omega), hIo (by omega)]
      exact gm.2.2.2.2 k hk
  · have r3 : s2.2.2 1000 3 = some x := by rw [sR2 1000 (by decide)]; exact z1
    have r4 : s2.2.2 1000 4 = some xx := by rw [sR2 1000 (by decide)]; exact z2
    have r11 : t2.2.2 1132 11 = some y := by rw [gm.2.2.1]; exact z3
    have eC2 := c_20s hx' hx z2 eC r3 r4
    have eM2 := eM.trans (m_117s hy hy' h9 r11)
    have ev : s2.1 (xx + 11) 8 = t2.1 (yy + 4) 8 := by
      rw [(hX.1.1 8 (by decide)).1, (hX.1.1 8 (by decide)).2.1]
    rw [ev] at eC2
    obtain ⟨s3, hs3⟩ : ∃ u, u = sI (sI (sI (sR (sR (sI s2 1001 2 0) 1000 3 (some xx)) 1000 4 (some x)) 1000 5 1) 1000 6 (-1)) 1007 11 0 := ⟨_, rfl⟩
    obtain ⟨t3, ht3⟩ : ∃ u, u = sI (sI (sR (sR (sI (sI t2 1132 1 0) 1132 2 (-1)) 1132 12 (some y)) 1132 11 (some yy)) 1132 13 1) 1132 17 0 := ⟨_, rfl⟩
    rw [← hs3] at eC2
    rw [← ht3] at eM2
    have a1 : ∀ a, a ≠ 1000 → a ≠ 1001 → a ≠ 1007 → s3.1 a = s2.1 a := fun a p1 p2 p3 => by
      rw [hs3, hIo p3, hIo p1, hIo p1]
      show (sI s2 1001 2 0).1 a = _
      rw [hIo p2]
    have a2 : s3.2.1 = s2.2.1 := by rw [hs3]; rfl
    have a3 : ∀ a, a ≠ 1000 → s3.2.2 a = s2.2.2 a := fun a p => by
      rw [hs3]
      show (sR (sR (sI s2 1001 2 0) 1000 3 (some xx)) 1000 4 (some x)).2.2 a = _
      rw [rRo p, rRo p]; rfl
    have a4 : s3.2.2 1000 3 = some xx ∧ s3.2.2 1000 4 = some x := by
      rw [hs3]
      constructor
      · show (sR (sR (sI s2 1001 2 0) 1000 3 (some xx)) 1000 4 (some x)).2.2 1000 3 = _
        rw [rRk (by decide), rRe]
      · show (sR (sR (sI s2 1001 2 0) 1000 3 (some xx)) 1000 4 (some x)).2.2 1000 4 = _
        rw [rRe]
    have a5 : s3.1 1000 5 = 1 ∧ s3.1 1000 6 = -1 ∧ s3.1 1007 11 = 0 ∧ s3.1 1001 2 = 0 ∧ s3.1 1000 7 = s2.1 1000 7 := by
      rw [hs3]
      refine ⟨?_, ?_, hIe, ?_, ?_⟩
      · rw [hIo (by decide), hIk (by decide), hIe]
      · rw [hIo (by decide), hIe]
      · rw [hIo (by decide), hIo (by decide), hIo (by decide)]
        show (sI s2 1001 2 0).1 1001 2 = _
        rw [hIe]
      · rw [hIo (by decide), hIk (by decide), hIk (by decide)]
        show (sI s2 1001 2 0).1 1000 7 = _
        rw [hIo (by decide)]
    have b1 : ∀ a, a ≠ 1132 → t3.1 a = t2.1 a := fun a p => by
      rw [ht3, hIo p, hIo p]
      show (sI (sI t2 1132 1 0) 1132 2 (-1)).1 a = _
      rw [hIo p, hIo p]
    have b2 : t3.2.1 = t2.2.1 := by rw [ht3]; rfl
    have b4 : t3.2.2 1132 11 = some yy ∧ t3.2.2 1132 12 = some y := by
      rw [ht3]
      constructor
      · show (sR (sR (sI (sI t2 1132 1 0) 1132 2 (-1)) 1132 12 (some y)) 1132 11 (some yy)).2.2 1132 11 = _
        rw [rRe]
      · show (sR (sR (sI (sI t2 1132 1 0) 1132 2 (-1)) 1132 12 (some y)) 1132 11 (some yy)).2.2 1132 12 = _
        rw [rRk (by decide), rRe]
    have b5 : t3.1 1132 13 = 1 ∧ t3.1 1132 17 = 0 ∧ t3.1 1132 1 = 0 ∧ t3.1 1132 2 = -1 ∧ ∀ k, 18 ≤ k → t3.1 1132 k = t2.1 1132 k := by
      rw [ht3]
      refine ⟨?_, hIe, ?_, ?_, fun k hk => ?_⟩
      · rw [hIk (by decide), hIe]
      · rw [hIk (by decide), hIk (by decide)]
        show (sI (sI t2 1132 1 0) 1132 2 (-1)).1 1132 1 = _
        rw [hIk (by decide), hIe]
      · rw [hIk (by decide), hIk (by decide)]
        show (sI (sI t2 1132 1 0) 1132 2 (-1)).1 1132 2 = _
        rw [hIe]
      · rw [hIk (by omega), hIk (by omega)]
        show (sI (sI t2 1132 1 0) 1132 2 (-1)).1 1132 k = _
        rw [hIk (by omega), hIk (by omega)]
    refine ⟨t2.1 (yy + 4) 8, s3, t3, eC2, eM2, Rel_up ⟨Gz G2 (fun i => if i = 0 then 0 else if i = 1 then 4294967295 else G 23 i), xx, yy, C, e1, ?_, Or.inr (Or.inl ⟨a5.1, b5.1, ?_, a5.2.2.1, b5.2.1⟩)⟩ (Nat.le_succ _)⟩
    · refine KZ_mod hK ?_ ?_ hx' hy' ⟨a4.1, ?_, b4.1, ?_⟩ ⟨a5.2.1.trans (show (-1 : Int32) = nI 4294967295 from by decide), b5.2.2.2.1.trans (show (-1 : Int32) = nI 4294967295 from by decide)⟩ ?_ rfl rfl ⟨a5.2.2.2.1, b5.2.2.1⟩ (fun k hk => ?_)
      · rw [← hxx]
        exact ⟨fun a p1 p2 p3 p4 p5 p6 => (a1 a p1 p2 p5).trans (sFr a p2 p3 p4 p6), fun a p1 p2 p3 => by rw [a2]; exact sJ2 a p1 p2 p3, fun a p1 p2 => (a3 a p1).trans (sR2 a p2)⟩
      · rw [← hyy]
        exact ⟨fun a p1 p2 => (b1 a p1).trans (gm.1 a p1 p2), fun a p1 p2 p3 p4 => by rw [b2]; exact gm.2.1 a p1 p2 p3 p4, fun k hk => (b5.2.2.2.2 k hk).trans (gm.2.2.2.1 k (by omega))⟩
      · rw [a4.2, show 2156 - xx = x by omega]
      · rw [b4.2, show 2304 - yy = y by omega]
      · rw [a5.2.2.2.2, sFr 1000 (by decide) (by decide) (by decide) (by omega)]
      · rw [show 2304 - yy + 6 = y + 6 by omega, b1 _ (by omega), gm.1 (y + 6) (by omega) (by omega)]
        exact Rel_y6 e3 k hk
    · exact TX_Gz (TX_fr2 (fun k hk => a1 _ (by omega) (by omega) (by omega)) (fun k hk => by rw [a2]) (fun k hk => b1 _ (by omega)) (by rw [b2]) hX)
end ZSE
