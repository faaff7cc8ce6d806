/-! declarations, both readers: blocks of tasks and procs, their data -/
section ZRG
variable {U : Nat → Nat} {len x y n K np bl ub q dp nd cd us es na nb q2 N N2 c q4 na2 nb2 cd2 kd w rt : Nat} {s0 t0 tz s t s2 t2 s3 t3 s4 t4 s5 t5 s6 t6 : zσ} {G G2 : Nat → Nat → Nat} {cnt cnt2 : Nat → Nat}
theorem ER_top {bl2 : Nat} (h : ER U len x y s0 t0 K np tz G bl ub q dp nd cd us s t) (h3 : s.1 1004 3 = 0 ∧ t.1 1132 15 = -1) : ER U len x y s0 t0 K np tz G2 bl2 ub q dp nd cd us s t := by
  obtain ⟨a1, a2, a3, a4, a5, a6, a7, a8⟩ := h
  exact ⟨a1, a2, a3, a4, a5, a6, a7, fun hK => ⟨(a8 hK).1, (a8 hK).2.1, (a8 hK).2.2.1, (a8 hK).2.2.2.1, Or.inl h3⟩⟩
theorem SR_pre {np2 : Nat} (h : SR U len x y s0 t0 K np tz G bl ub q dp nd cd us es na nb s t) (hE : ER U len x y s0 t0 K np2 tz G2 nb (4 * na) q4 dp nd cd us s4 t4) (hq : q ≤ q4) (h6 : ∀ k, G2 6 k = G 6 k) (e19 : s4.1 (x + 19) = s.1 (x + 19)) (e29 : s4.1 (x + 29) = s.1 (x + 29)) (ey : ∀ k, k ≠ 0 → t4.1 y k = t.1 y k) (e8 : (s4.1 1004 8 = 0 ∧ t4.1 1132 15 = -1) ∨ (s4.1 1004 8 = 1 ∧ ∃ p, p < 6 ∧ t4.1 1132 15 = nI p)) (em : s4.1 1004 12 = s.1 1004 12) (e35 : t4.1 (y + 35) = t.1 (y + 35)) (e18 : K = 1 → ∀ p, p < G 6 7 → s4.1 (x + 18) p = tz.1 (y + 11) p) : SR U len x y s0 t0 K np2 tz G2 nb (4 * na) q4 dp nd cd us es na nb s4 t4 := by
  obtain ⟨-, ⟨a1, a2, a3⟩, ⟨b1, b2, b3⟩, ⟨c1, c2⟩, d1, e1, f1⟩ := h
  refine ⟨hE, ⟨by rw [e19]; exact a1, by rw [ey 16 (by decide)]; exact a2, a3⟩, ⟨by rw [e29]; exact b1, by rw [ey 13 (by decide)]; exact b2, by omega⟩, ⟨by rw [ey 28 (by decide)]; exact c1, c2⟩, e8, MI_fr e1 em (fun u hu => by rw [e35]) (fun u a b => by omega) (Nat.le_refl _), fun hK p hp => e18 hK p (by rw [← h6]; exact hp)⟩
theorem Fut_e {a0 a1 b0 b1 c1 er eb : Nat} (hs : ∀ a, x + 20 ≤ a → a ≤ x + 35 → s2.1 a = s.1 a) (ht : ∀ a, y + 13 ≤ a → a ≤ y + 24 → t2.1 a = t.1 a) : Fut x y a0 a1 b0 b1 c1 er eb G s t G s2 t2 :=
  ⟨GX_rf, fun r p1 p2 => ⟨⟨fun j a b => by rw [hs _ (by omega) (by omega)], fun j a b c d => by rw [ht _ (by omega) (by omega)], fun k hk => by rw [ht _ (by omega) (by omega), ht _ (by omega) (by omega)]; exact ⟨rfl, rfl⟩⟩, fun _ => ⟨by rw [hs _ (by omega) (by omega)], by rw [ht _ (by omega) (by omega)]⟩⟩, fun b p1 p2 => ⟨⟨fun j a => by rw [hs _ (by omega) (by omega)], by rw [ht _ (by omega) (by omega)], fun w hw => by rw [ht _ (by omega) (by omega)]⟩, fun _ => ⟨by rw [hs _ (by omega) (by omega)], by rw [hs _ (by omega) (by omega)]⟩⟩, fun p hp => ⟨by rw [hs _ (by omega) (by omega)], by rw [hs _ (by omega) (by omega)]⟩⟩
/-- the data, with the block of a task or proc more -/
theorem GD_blk (hGD : GD K x y tz G cnt na nb cd s t) (hs : ∀ a, x + 20 ≤ a → a ≤ x + 35 → s4.1 a = s.1 a) (ht : ∀ a, y + 13 ≤ a → a ≤ y + 24 → t4.1 a = t.1 a) (hm4 : s4.1 1004 12 = s.1 1004 12) (hLC : LC x K na nb cd s4 s5) (hLM : LM y na nb t4 t5) (hl : na ≤ na2 ∧ nb + 1 ≤ nb2 ∧ cd ≤ cd2) (hB : K = 1 → s5.1 1004 12 = -1 → ∀ Gc, CP (Gbl G nb kd w 1 rt nb) Gc nb → dH Gc na (nb + 1) nb → ∃ G', GX Gc G' na (nb + 1) ∧ PD x y na na2 nb nb2 cd2 na2 nb tz G' s5 t5 ∧ GK (nb + 1) nb2 G') (hs6 : ∀ a, x + 20 ≤ a → a ≤ x + 35 → s6.1 a = s5.1 a) (ht6 : ∀ a, y + 13 ≤ a → a ≤ y + 24 → t6.1 a = t5.1 a) (hm6 : s6.1 1004 12 = s5.1 1004 12) (h16 : ∀ k, k < cnt 8 → s6.1 (x + 16) k = s.1 (x + 16) k) (h17 : ∀ k, k < cnt 7 → s6.1 (x + 17) k = s.1 (x + 17) k) (hkd : (kd = 0 ∧ rt = w ∧ w = cnt 8 ∧ cnt2 8 = cnt 8 + 1 ∧ cnt2 7 = cnt 7 ∧ s6.1 (x + 16) w = nI nb) ∨ (kd = 1 ∧ rt = 8 + w ∧ w = cnt 7 ∧ cnt2 7 = cnt 7 + 1 ∧ cnt2 8 = cnt 8 ∧ s6.1 (x + 17) w = nI nb)) : GD K x y tz G cnt2 na2 nb2 cd2 s6 t6 := by
  intro hK hm
  have hm5 : s5.1 1004 12 = -1 := by rw [← hm6]; exact hm
  have hms : s.1 1004 12 = -1 := by rw [← hm4]; exact hLC.2.2.2.2.1 hm5
  obtain ⟨G', g1, g2, g3, g4, g5⟩ := hGD hK hms
  have gb := Gbl_b (G := G') (b := nb) (k := kd) (w := w) (l := 1) (rt := rt) (st := nb)
  have gb0 := Gbl_b (G := G) (b := nb) (k := kd) (w := w) (l := 1) (rt := rt) (st := nb)
  have hCP : CP (Gbl G nb kd w 1 rt nb) (Gbl G' nb kd w 1 rt nb) nb := by
    refine ⟨fun k => ?_, gb.1.trans gb0.1.symm, gb.2.1.trans gb0.2.1.symm, gb.2.2.1.trans gb0.2.2.1.symm, gb.2.2.2.1.trans gb0.2.2.2.1.symm, gb.2.2.2.2.trans gb0.2.2.2.2.symm⟩
    rw [Gbl_o (by omega), Gbl_o (by omega), Gbl_o (by omega), Gbl_o (by omega), Gbl_o (by omega), Gbl_o (by omega), Gbl_o (by omega), Gbl_o (by omega)]
    exact g1 k
  have hkd1 : kd ≤ 1 := by rcases hkd with e | e <;> omega
  have hrt : (kd = 0 → rt = w) ∧ (kd = 1 → rt = 8 + w) := by rcases hkd with e | e <;> exact ⟨fun _ => by omega, fun _ => by omega⟩
  have hdH : dH (Gbl G' nb kd w 1 rt nb) na (nb + 1) nb := by
    unfold dH
    rw [gb.1, gb.2.1, gb.2.2.1, gb.2.2.2.1, gb.2.2.2.2, gb.1, gb.2.2.1, gb.2.2.2.1]
    exact ⟨fun e => ⟨hrt.1 e, rfl⟩, fun e => ⟨hrt.2 e, rfl⟩, fun e => by omega, fun e => by omega, by omega, by omega, rfl, Nat.le_refl _⟩
  obtain ⟨G3, v1, v2, v3⟩ := hB hK hm5 _ hCP hdH
  have hX : GX G' G3 na nb := GX_tr (Gbl_X (na := na)) v1 (by omega) (by omega)
  have p1 := PD_mv (PD_mv g5 (Fut_e hs ht)) (Fut_L hK hX hLC hLM (Nat.le_refl _) (Nat.le_refl _) (Nat.le_refl _))
  have p2 := PD_join (er := na2) (eb := nb2) p1 v2 (by omega) (by omega) (by omega) (by omega) (by omega) (by omega) (by omega)
  have p3 := PD_mv p2 (Fut_e hs6 ht6)
  have k2 : G3 2 nb = kd := ((v1.2.2 nb (by omega)).1).trans gb.1
  have k3 : G3 3 nb = w := ((v1.2.2 nb (by omega)).2.1).trans gb.2.1
  refine ⟨G3, fun k => ?_, fun b hb => ?_, fun k hk => ?_, fun k hk => ?_, p3⟩
  · obtain ⟨r1, r2, r3, r4⟩ := hX.1 k
    obtain ⟨w1, w2, w3, w4⟩ := g1 k
    exact ⟨r1.trans w1, r2.trans w2, r3.trans w3, r4.trans w4⟩
  · by_cases e1 : b < nb
    · obtain ⟨f2, f3, -⟩ := hX.2.2 b e1
      obtain ⟨j1, j2⟩ := g2 b e1
      rw [f2, f3]
      refine ⟨fun e => ?_, fun e => ?_⟩
      · obtain ⟨i1, i2⟩ := j1 e
        rw [h16 _ i1]
        exact ⟨by rcases hkd with e | e <;> omega, i2⟩
      · obtain ⟨i1, i2⟩ := j2 e
        rw [h17 _ i1]
        exact ⟨by rcases hkd with e | e <;> omega, i2⟩
    · by_cases e2 : b = nb
      · rw [e2, k2, k3]
        rcases hkd with ⟨z1, z2, z3, z4, z5, z6⟩ | ⟨z1, z2, z3, z4, z5, z6⟩
        · exact ⟨fun _ => ⟨by omega, z6⟩, fun e => by omega⟩
        · exact ⟨fun e => by omega, fun _ => ⟨by omega, z6⟩⟩
      · have := v3 b (by omega) hb
        exact ⟨fun e => by omega, fun e => by omega⟩
  · by_cases e1 : k < cnt 8
    · obtain ⟨b, b1, b2, b3, b4⟩ := g3 k e1
      obtain ⟨f2, f3, -⟩ := hX.2.2 b b1
      exact ⟨b, by omega, by rw [h16 k e1]; exact b2, by rw [f2]; exact b3, by rw [f3]; exact b4⟩
    · rcases hkd with ⟨z1, z2, z3, z4, z5, z6⟩ | ⟨z1, z2, z3, z4, z5, z6⟩
      · have : k = w := by omega
        exact ⟨nb, by omega, by rw [this]; exact z6, k2.trans z1, k3.trans this.symm⟩
      · omega
  · by_cases e1 : k < cnt 7
    · obtain ⟨b, b1, b2, b3, b4⟩ := g4 k e1
      obtain ⟨f2, f3, -⟩ := hX.2.2 b b1
      exact ⟨b, by omega, by rw [h17 k e1]; exact b2, by rw [f2]; exact b3, by rw [f3]; exact b4⟩
    · rcases hkd with ⟨z1, z2, z3, z4, z5, z6⟩ | ⟨z1, z2, z3, z4, z5, z6⟩
      · omega
      · have : k = w := by omega
        exact ⟨nb, by omega, by rw [this]; exact z6, k2.trans z1, k3.trans this.symm⟩
theorem DV_blk (h : DV x y nb cnt s t) (hl : nb + 1 ≤ nb2) (e12 : s6.1 (x + 12) = s.1 (x + 12) ∧ s6.1 (x + 13) = s.1 (x + 13) ∧ t6.1 (y + 5) = t.1 (y + 5) ∧ t6.1 (y + 6) = t.1 (y + 6)) (h0 : cnt2 0 = cnt 0 ∧ cnt2 2 = cnt 2) (h8 : ∀ k, k < cnt 8 → s6.1 (x + 14) k = s.1 (x + 14) k ∧ s6.1 (x + 15) k = s.1 (x + 15) k ∧ s6.1 (x + 16) k = s.1 (x + 16) k ∧ t6.1 (y + 8) k = t.1 (y + 8) k ∧ t6.1 (y + 9) k = t.1 (y + 9) k ∧ t6.1 (y + 7) k = t.1 (y + 7) k) (h7 : ∀ k, k < cnt 7 → s6.1 (x + 17) k = s.1 (x + 17) k ∧ s6.1 (x + 18) k = s.1 (x + 18) k ∧ t6.1 (y + 10) k = t.1 (y + 10) k ∧ t6.1 (y + 11) k = t.1 (y + 11) k) (hn8 : ∀ k, k < cnt2 8 → ¬ k < cnt 8 → (∃ p, 1 ≤ p ∧ p ≤ 9 ∧ s6.1 (x + 14) k = nI p ∧ t6.1 (y + 8) k = nI p) ∧ (s6.1 (x + 15) k = t6.1 (y + 9) k ∧ (s6.1 (x + 15) k = 0 ∨ s6.1 (x + 15) k = 1)) ∧ (s6.1 (x + 16) k = nI nb ∧ t6.1 (y + 7) k = nI nb)) (hn7 : ∀ k, k < cnt2 7 → ¬ k < cnt 7 → (s6.1 (x + 17) k = nI nb ∧ t6.1 (y + 10) k = nI nb) ∧ ∃ m, m ≤ 3 ∧ s6.1 (x + 18) k = nI m ∧ t6.1 (y + 11) k = nI m) : DV x y nb2 cnt2 s6 t6 := by
  obtain ⟨a1, a2, a3, a4⟩ := h
  refine ⟨fun k hk => ?_, fun k hk => ?_, fun k hk => ?_, fun k hk => ?_⟩
  · rw [e12.1, e12.2.2.1]; exact a1 k (by omega)
  · rw [e12.2.1, e12.2.2.2, h0.2]; exact a2 k hk
  · by_cases e : k < cnt 8
    · obtain ⟨z1, z2, z3, z4, z5, z6⟩ := h8 k e
      obtain ⟨w1, w2, b, b1, b2⟩ := a3 k e
      rw [z1, z2, z3, z4, z5, z6]
      exact ⟨w1, w2, b, by omega, b2⟩
    · obtain ⟨w1, w2, w3⟩ := hn8 k hk e
      exact ⟨w1, w2, nb, by omega, w3⟩
  · by_cases e : k < cnt 7
    · obtain ⟨z1, z2, z3, z4⟩ := h7 k e
      obtain ⟨⟨b, b1, b2⟩, w1⟩ := a4 k e
      rw [z1, z2, z3, z4]
      exact ⟨⟨b, by omega, b2⟩, w1⟩
    · obtain ⟨w1, w2⟩ := hn7 k hk e
      exact ⟨⟨nb, by omega, w1⟩, w2⟩
theorem DT_fr (h : DT x y K cnt N s t) (e5 : s2.1 1005 = s.1 1005) (e11 : s2.1 (x + 11) = s.1 (x + 11)) (gn : ∀ c, c < 9 → s2.2.1 (x + 2 + c) = s.2.1 (x + 2 + c)) (f4 : t2.1 (y + 4) = t.1 (y + 4)) (f0 : t2.1 y 0 = t.1 y 0) (f2 : t2.1 (y + 2) = t.1 (y + 2)) (f3 : t2.1 (y + 3) = t.1 (y + 3)) (g1 : t2.2.1 (y + 1) = t.2.1 (y + 1)) : DT x y K cnt N s2 t2 := by
  unfold DT at h ⊢
  rw [e5, e11, f4, f0, f2, f3, g1]
  refine ⟨h.1, h.2.1, h.2.2.1, fun hK => ?_⟩
  obtain ⟨q1, q2, q3, q4⟩ := h.2.2.2 hK
  refine ⟨q1, fun k hk => ?_, fun c i hc hi => ?_, q4⟩
  · obtain ⟨c, i, p1, p2, p3, p4, p5⟩ := q2 k hk
    exact ⟨c, i, p1, p2, p3, p4, by rw [gn c p1]; exact p5⟩
  · obtain ⟨k, p1, p2, p3, p4⟩ := q3 c i hc hi
    exact ⟨k, p1, p2, p3, by rw [gn c hc]; exact p4⟩
theorem DT_L (hx : x = 1060 ∨ x = 1096) (hy : y = 1134 ∨ y = 1170) (h : DT x y K cnt N s t) (h1 : LC x K na nb cd s s2) (h2 : LM y na nb t t2) : DT x y K cnt N s2 t2 :=
  DT_fr h (h1.1 _ (by omega) (by omega) (by omega)) (h1.1 _ (by omega) (by omega) (by omega)) (fun c hc => h1.2.1 _ (by omega)) (h2.1 _ (by omega) (by omega) (by omega)) (h2.2.2.2.2.1 0 (by decide) (by decide) (by decide) (by decide) (by decide) (by decide)) (h2.1 _ (by omega) (by omega) (by omega)) (h2.1 _ (by omega) (by omega) (by omega)) (h2.2.1 _ (by omega) (by omega))
end ZRG
