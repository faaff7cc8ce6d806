/-! the relation of the texts, when other texts change -/
section ZDC
variable {G W W2 : Nat → Nat → Nat} {F F2 : Nat → Nat → Nat → Nat} {B C B2 C2 x y n i j : Nat} {s s2 s3 t t2 t3 : zσ} {a b : Nat → Nat}
theorem cR_fr2 (hs : s2.1 (x + 34) = s.1 (x + 34)) : ∀ (l : List Nat) (v : Int32), cR x s v l → cR x s2 v l
  | [], _, h => h
  | r :: l, v, h => ⟨h.1, h.2.1, by rw [hs]; exact cR_fr2 hs l _ h.2.2⟩
set_option maxHeartbeats 2000000 in
theorem TX_fr2 (hs : ∀ k, k ≤ 35 → s2.1 (x + k) = s.1 (x + k)) (hsj : ∀ k, k < 9 → s2.2.1 (x + 2 + k) = s.2.1 (x + 2 + k)) (ht : ∀ k, k ≤ 35 → t2.1 (y + k) = t.1 (y + k)) (htj : t2.2.1 (y + 1) = t.2.1 (y + 1)) (h : TX G x y s t) : TX G x y s2 t2 := by
  have e0 : t2.1 y = t.1 y := ht 0 (by decide)
  have e4 := ht 4 (by decide)
  have e2 := ht 2 (by decide)
  have e3 := ht 3 (by decide)
  have e5 := ht 5 (by decide)
  have e6 := ht 6 (by decide)
  have e7 := ht 7 (by decide)
  have e8 := ht 8 (by decide)
  have e9 := ht 9 (by decide)
  have e10 := ht 10 (by decide)
  have e13 := ht 13 (by decide)
  have e14 := ht 14 (by decide)
  have e15 := ht 15 (by decide)
  have e16 := ht 16 (by decide)
  have e17 := ht 17 (by decide)
  have e18 := ht 18 (by decide)
  have e19 := ht 19 (by decide)
  have e20 := ht 20 (by decide)
  have e21 := ht 21 (by decide)
  have e22 := ht 22 (by decide)
  have e23 := ht 23 (by decide)
  have e24 := ht 24 (by decide)
  have e25 := ht 25 (by decide)
  have e26 := ht 26 (by decide)
  have e27 := ht 27 (by decide)
  have e28 := ht 28 (by decide)
  have e33 := ht 33 (by decide)
  have e34 := ht 34 (by decide)
  have h0 := hs 0 (by decide)
  have h1 := hs 1 (by decide)
  have h2 := hs 2 (by decide)
  have h3 := hs 3 (by decide)
  have h4 := hs 4 (by decide)
  have h5 := hs 5 (by decide)
  have h6 := hs 6 (by decide)
  have h7 := hs 7 (by decide)
  have h8 := hs 8 (by decide)
  have h9 := hs 9 (by decide)
  have h10 := hs 10 (by decide)
  have h11 := hs 11 (by decide)
  have h12 := hs 12 (by decide)
  have h13 := hs 13 (by decide)
  have h14 := hs 14 (by decide)
  have h15 := hs 15 (by decide)
  have h16 := hs 16 (by decide)
  have h17 := hs 17 (by decide)
  have h18 := hs 18 (by decide)
  have h19 := hs 19 (by decide)
  have h20 := hs 20 (by decide)
  have h21 := hs 21 (by decide)
  have h22 := hs 22 (by decide)
  have h23 := hs 23 (by decide)
  have h24 := hs 24 (by decide)
  have h25 := hs 25 (by decide)
  have h26 := hs 26 (by decide)
  have h27 := hs 27 (by decide)
  have h28 := hs 28 (by decide)
  have h29 := hs 29 (by decide)
  have h30 := hs 30 (by decide)
  have h31 := hs 31 (by decide)
  have h32 := hs 32 (by decide)
  have h33 := hs 33 (by decide)
  have h34 := hs 34 (by decide)
  have h35 := hs 35 (by decide)
  obtain ⟨g1, g2, g3, g4⟩ := h
  refine ⟨?_, ?_, ?_, ?_⟩
  · unfold tN at g1 ⊢
    simp only [h1, h2, h3, h4, h5, h6, h7, h8, h9, h10, h11, h12, h13, h14, h15, h16, h17, h18, h19, h20, h21, h22, h23, h24, h25, h26, h27, h28, h29, h30, h31, h32, h33, h34, h35, e0, e4, e2, e3, htj]
    obtain ⟨n1, n2, n3, N, m1, m2, m3, m4, m5⟩ := g1
    refine ⟨n1, n2, n3, N, m1, m2, fun k hk => ?_, fun c i hc hi => ?_, m5⟩
    · obtain ⟨c, i, q1, q2, q3, q4, q5⟩ := m3 k hk
      exact ⟨c, i, q1, q2, q3, q4, by rw [hsj c q1]; exact q5⟩
    · obtain ⟨k, q1, q2, q3, q4⟩ := m4 c i hc hi
      exact ⟨k, q1, q2, q3, by rw [hsj c hc]; exact q4⟩
  · unfold tD at g2 ⊢
    simp only [h1, h2, h3, h4, h5, h6, h7, h8, h9, h10, h11, h12, h13, h14, h15, h16, h17, h18, h19, h20, h21, h22, h23, h24, h25, h26, h27, h28, h29, h30, h31, h32, h33, h34, h35, e5, e6, e7, e8, e9, e10]
    exact g2
  · intro b hb
    have g5 := g3 b hb
    simp only [h1, h2, h3, h4, h5, h6, h7, h8, h9, h10, h11, h12, h13, h14, h15, h16, h17, h18, h19, h20, h21, h22, h23, h24, h25, h26, h27, h28, h29, h30, h31, h32, h33, h34, h35, e13, e14]
    obtain ⟨a1, a2, a3, a4, a5, a6, a7, a8, l, a9, a10⟩ := g5
    exact ⟨a1, a2, a3, a4, a5, a6, a7, a8, l, cR_fr2 h34 l _ a9, a10⟩
  · intro r hr
    have g5 := g4 r hr
    unfold tO tL tE tX tC uA uV at g5 ⊢
    simp only [h1, h2, h3, h4, h5, h6, h7, h8, h9, h10, h11, h12, h13, h14, h15, h16, h17, h18, h19, h20, h21, h22, h23, h24, h25, h26, h27, h28, h29, h30, h31, h32, h33, h34, h35, e15, e16, e17, e18, e19, e20, e21, e22, e23, e24, e25, e26, e27, e28, e33, e34]
    exact g5
def Gz (G : Nat → Nat → Nat) (h : Nat → Nat) : Nat → Nat → Nat := fun i k => if i = 23 then h k else G i k
theorem Gz_Gh {g : Nat} {h : Nat → Nat} : Gz (Gh G a b g) h = Gh (Gz G h) a b g := by
  funext i k
  unfold Gz Gh
  by_cases q : i = 23
  · subst q
    rfl
  · simp only [if_neg q]
theorem TX_Gz {h : Nat → Nat} (hX : TX G x y s t) : TX (Gz G h) x y s t := hX
/-- what lies beside the machine changes -/
theorem RUN_out {h' : Nat → Nat} (h : RUN G F W B C x y s t) (c0 : ∀ a, a = 1007 ∨ a = 1008 → s2.2.2 a = s.2.2 a) (c1 : ∀ a, 1007 ≤ a → a < 1060 → s2.1 a = s.1 a) (cX : ∀ k, k ≤ 35 → s2.1 (x + k) = s.1 (x + k)) (cJ : ∀ k, k < 9 → s2.2.1 (x + 2 + k) = s.2.1 (x + 2 + k)) (m0 : t2.2.2 1132 11 = t.2.2 1132 11) (m1 : ∀ a, 1207 ≤ a → t2.1 a = t.1 a) (mX : ∀ k, k ≤ 35 → t2.1 (y + k) = t.1 (y + k)) (mJ : t2.2.1 (y + 1) = t.2.1 (y + 1)) (m2 : ∀ k, k = 13 ∨ k = 17 ∨ 19 ≤ k → t2.1 1132 k = t.1 1132 k) (m3 : t2.1 1132 1 = nI (h' 0) ∧ t2.1 1132 2 = nI (h' 1) ∧ t2.1 1132 18 = nI (h' 2)) (hZ : rZ (Gz G h') x y s2 t2) : RUN (Gz G h') F W B C x y s2 t2 := by
  obtain ⟨⟨r1, r2, ⟨r3, rz⟩, r4, r5, r6, r7⟩, hX, ⟨d1, d2, d3, d4, d5, d6, d7, d8, d9, d10, d11⟩, hE, hT, hU⟩ := h
  have hx22 : s2.1 (x + 22) = s.1 (x + 22) := cX 22 (by decide)
  refine ⟨⟨r1, r2, ⟨by rw [c0 1007 (Or.inl rfl)]; exact r3, hZ⟩, by rw [c0 1007 (Or.inl rfl)]; exact r4, by rw [c0 1007 (Or.inl rfl)]; exact r5, by rw [m0]; exact r6, by rw [c0 1008 (Or.inr rfl)]; exact r7⟩, TX_Gz (TX_fr2 cX cJ mX mJ hX), ⟨?_, ?_, ?_, ?_, ?_, ?_, ?_, ?_, ?_, ?_, ?_⟩, ?_, fun j hj hji => ?_, fun j k hj hk hji hki => ?_⟩
  · obtain ⟨a1, a2, a3, a4, a5, a6, a7, a8, a9, a10, a11, a12, -⟩ := d1
    unfold rA
    simp (disch := omega) only [c1, m1, m2]
    exact ⟨a1, a2, a3, a4, a5, a6, a7, a8, a9, a10, a11, a12, m3⟩
  · unfold rB at d2 ⊢; simp (disch := omega) only [c1, m1, m2]; exact d2
  · have d3' : rV G s2 t2 := by unfold rV at d3 ⊢; simp (disch := omega) only [c1, m1]; exact d3
    exact d3'
  · unfold rW at d4 ⊢; simp (disch := omega) only [c1, m1]; exact d4
  · have d5' : rS G s2 t2 := by unfold rS at d5 ⊢; simp (disch := omega) only [c1, m1]; exact d5
    exact d5'
  · unfold rL at d6 ⊢; simp (disch := omega) only [c1, m1]; exact d6
  · unfold rI at d7 ⊢; simp (disch := omega) only [c1, m1]; exact d7
  · unfold rO at d8 ⊢; simp (disch := omega) only [c1, m1]; exact d8
  · unfold rP at d9 ⊢; simp (disch := omega) only [c1, m1]; exact d9
  · have d10' : rH G s2 t2 := by unfold rH at d10 ⊢; simp (disch := omega) only [c1, m1]; exact d10
    exact d10'
  · unfold rC at d11 ⊢; simp (disch := omega) only [c1, m2]; exact d11
  · unfold rE at hE ⊢; simp (disch := omega) only [c1, m2]; exact hE
  · have w : rT G W F x s2 t2 j := rT_fr ⟨c1 _ (by omega) (by omega), c1 _ (by omega) (by omega), c1 _ (by omega) (by omega)⟩ ⟨fun a q1 q2 => by rw [m1 a (by omega)], fun a d q1 q2 q3 => by rw [m1 a (by omega)], fun k q => by rw [m1 1239 (by omega)]⟩ sG1_rf hx22 (hT j hj hji)
    exact w
  · have u := hU j k hj hk hji hki
    unfold rU2 at u ⊢
    rw [c1 (1036 + 3 * j) (by omega) (by omega), c1 (1036 + 3 * k) (by omega) (by omega)]
    exact u
end ZDC
