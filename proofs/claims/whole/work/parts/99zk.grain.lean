/-! a grain: the parts -/
section ZCR
variable {G W W2 : Nat → Nat → Nat} {F F2 : Nat → Nat → Nat → Nat} {B C B2 C2 x y n i j o k v p D r N P g : Nat} {s t s2 t2 s' t' : zσ} {a b : Nat → Nat}
def Gh (G : Nat → Nat → Nat) (a b : Nat → Nat) (g : Nat) : Nat → Nat → Nat := fun i k => if i = 20 then a k else if i = 21 then b k else if i = 22 then g else G i k
theorem Gh_Gh {a' b' : Nat → Nat} {g' : Nat} : Gh (Gh G a b g) a' b' g' = Gh G a' b' g' := by
  funext i k
  unfold Gh
  by_cases h1 : i = 20
  · rw [if_pos h1, if_pos h1]
  · rw [if_neg h1, if_neg h1, if_neg h1]
    by_cases h2 : i = 21
    · rw [if_pos h2, if_pos h2]
    · rw [if_neg h2, if_neg h2, if_neg h2]
      by_cases h3 : i = 22
      · rw [if_pos h3, if_pos h3]
      · rw [if_neg h3, if_neg h3, if_neg h3]
theorem TX_H (h : TX G x y s t) : TX (Gh G a b g) x y s t := h
/-- time and orders change -/
theorem RUN_H {m : Nat} (h : RUN G F W B C x y s t) (hB : B ≤ B2) (c1 : s2.2 = s.2) (c2 : ∀ a, a ≠ 1034 → a ≠ 1007 → s2.1 a = s.1 a) (c3 : ∀ k, k ≠ 14 → s2.1 1007 k = s.1 1007 k) (c4 : s2.1 1007 14 = nI m) (m1 : t2.2 = t.2) (m2 : ∀ a, a ≠ 1248 → a ≠ 1132 → t2.1 a = t.1 a) (m3 : ∀ k, k ≠ 20 → t2.1 1132 k = t.1 1132 k) (m4 : t2.1 1132 20 = nI m) (hm : m ≤ 1000000000 + B2) (ha : ∀ k, k < 3 → s2.1 1034 k = nI (a k)) (hb : ∀ k, k < 3 → t2.1 1248 k = nI (b k)) (hg1 : g ≤ 1) (hg : ∀ k d e, k < 16 → d ≤ 1000000000 → s.1 1023 k = nI d → s.1 1024 k = nI e → e ≤ 1000000000 → e ≠ 0 → nI m + nI g ≤ nI d) : RUN (Gh G a b g) F W B2 C x y s2 t2 := by
  obtain ⟨⟨r1, r2, ⟨r3, rz⟩, r4, r5, r6, r7⟩, hX, ⟨d1, d2, d3, d4, d5, d6, d7, d8, d9, d10, d11⟩, hE, hT, hU⟩ := h
  have rz2 : rZ G x y s2 t2 := rZ_fr (fun _ _ => by rw [c1]) (fun a q1 q2 => c2 a (by omega) (by omega)) (by rw [c1]) (by rw [m1]) (fun a q1 q2 => m2 a (by omega) (by omega)) r2 rz
  refine ⟨⟨r1, r2, ⟨by rw [c1]; exact r3, rz2⟩, by rw [c1]; exact r4, by rw [c1]; exact r5, by rw [m1]; exact r6, by rw [c1]; exact r7⟩, TX_H (TX_fr (fun k => c2 _ (by omega) (by omega)) (fun k => by rw [c1]) (fun k hk => m2 _ (by omega) (by omega)) (by rw [m1]) hX), ⟨?_, ?_, ?_, ?_, ?_, ?_, ?_, ?_, ?_, ?_, ?_⟩, ?_, fun j hj hji => ?_, fun j k hj hk hji hki => ?_⟩
  · obtain ⟨a1, a2, a3, a4, a5, a6, a7, a8, a9⟩ := d1
    unfold rA
    rw [c4, m4]
    simp (disch := omega) only [c2, c3, m2, m3]
    exact ⟨trivial, a2, a3, a4, a5, a6, a7, a8, fun k hk => ⟨ha k hk, hb k hk⟩, a9.2⟩
  · obtain ⟨⟨q1, q2, q3⟩, ⟨p1, p2, p3⟩, -⟩ := d2
    unfold rB
    simp (disch := omega) only [c2, m2, m3]
    exact ⟨⟨q1, by omega, q3⟩, ⟨p1, by omega, p3⟩, m, hm, c4⟩
  · have d3' : rV G s2 t2 := by unfold rV at d3 ⊢; simp (disch := omega) only [c2, m2]; exact d3
    exact d3'
  · unfold rW at d4 ⊢; simp (disch := omega) only [c2, m2]; exact d4
  · have d5' : rS G s2 t2 := by unfold rS at d5 ⊢; simp (disch := omega) only [c2, m2]; exact d5
    exact d5'
  · unfold rL at d6 ⊢; simp (disch := omega) only [c2, m2]; exact d6
  · unfold rI at d7 ⊢; simp (disch := omega) only [c2, m2]; exact d7
  · unfold rO at d8 ⊢; simp (disch := omega) only [c2, m2]; exact d8
  · unfold rP at d9 ⊢; simp (disch := omega) only [c2, m2]; exact d9
  · refine ⟨fun k hk => ?_, ?_, hg1⟩
    · simp (disch := omega) only [c2, m2]
      rcases d10.1 k hk with q | ⟨q1, q2, q3, q4, q5, q6, q7⟩
      · exact Or.inl q
      · refine Or.inr ⟨q1, q2, q3, q4, q5, q6, ?_⟩
        rcases q7 with ⟨w1, d, e, w2, w3, w4, w5, w6⟩ | q7
        · refine Or.inl ⟨w1, d, e, w2, w3, w4, w5, ?_⟩
          by_cases e0 : e = 0
          · exact Or.inl e0
          · right
            rw [c4]
            exact hg k d e hk w2 w4 w5 w3 e0
        · exact Or.inr q7
    · rw [c2 1023 (by decide) (by decide)]
      exact d10.2.1
  · unfold rC at d11 ⊢; simp (disch := omega) only [c3, m3]; exact d11
  · unfold rE at hE ⊢; simp (disch := omega) only [c2, m3]; exact hE
  · have w : rT G W F x s2 t2 j := rT_fr ⟨c2 _ (by omega) (by omega), c2 _ (by omega) (by omega), c2 _ (by omega) (by omega)⟩ ⟨fun a q1 q2 => by rw [m2 a (by omega) (by omega)], fun a d q1 q2 q3 => by rw [m2 a (by omega) (by omega)], fun k q => by rw [m2 1239 (by omega) (by omega)]⟩ sG1_rf (c2 _ (by omega) (by omega)) (hT j hj hji)
    exact w
  · have u := hU j k hj hk hji hki
    unfold rU2 at u ⊢
    rw [c2 (1036 + 3 * j) (by omega) (by omega), c2 (1036 + 3 * k) (by omega) (by omega)]
    exact u
/-- one more grain is counted -/
theorem cnt6_ok (h : RUN G F W B C x y s t) : RUN G F W B C x y (sI s 1030 6 (s.1 1030 6 + 1)) (sI t 1132 21 (t.1 1132 21 + 1)) := by
  have hxx := h.1.1
  have hyy := h.1.2.1
  obtain ⟨d1, d2, d3, d4, d5, d6, d7, d8, d9, d10, d11⟩ := id h.2.2.1
  have dE := h.2.2.2.1
  refine RUNx_glob h ⟨rfl, fun a ha => hIo (by omega)⟩ ⟨rfl, fun a q1 q2 q3 => hIo (by omega), by rw [hIk (by decide)]⟩ ⟨?_, ?_, ?_, ?_, ?_, ?_, ?_, ?_, ?_, ?_, ?_⟩ ?_
  · obtain ⟨a1, a2, a3, a4⟩ := d1
    unfold rA
    simp (disch := omega) only [hIo, hIk, hIe]
    exact ⟨a1, a2, by rw [a3], a4⟩
  · unfold rB at d2 ⊢; simp (disch := omega) only [hIo, hIk]; exact d2
  · unfold rV at d3 ⊢; simp (disch := omega) only [hIo, hIk]; exact d3
  · unfold rW at d4 ⊢; simp (disch := omega) only [hIo, hIk]; exact d4
  · unfold rS at d5 ⊢; simp (disch := omega) only [hIo, hIk]; exact d5
  · unfold rL at d6 ⊢; simp (disch := omega) only [hIo, hIk]; exact d6
  · unfold rI at d7 ⊢; simp (disch := omega) only [hIo, hIk]; exact d7
  · unfold rO at d8 ⊢; simp (disch := omega) only [hIo, hIk]; exact d8
  · unfold rP at d9 ⊢; simp (disch := omega) only [hIo, hIk]; exact d9
  · unfold rH at d10 ⊢; simp (disch := omega) only [hIo, hIk]; exact d10
  · unfold rC at d11 ⊢; simp (disch := omega) only [hIo, hIk]; exact d11
  · unfold rE at dE ⊢; simp (disch := omega) only [hIo, hIk]; exact dE
/-- those that were chosen do their statements -/
theorem gr_L {c : Nat} {r27 : Int32 → Int32 → zσ → Option (Int32 × zσ)} {x1 x2 : Int32} (hn : 1000 ≤ n) (hc : c ≤ 3) (hG : ∀ q, q < c → G 21 q = G 20 q ∧ G 20 q < 8) : ∀ m q fu fu2 B C (F : Nat → Nat → Nat → Nat) (W : Nat → Nat → Nat) (s t : zσ), RUN G F W B C x y s t → Nob n x s → q + m = c → m < fu → m < fu2 → B + m < 900000000 → C + 100 * m < 799998000 → ∃ s2 t2 F2 W2 B2 C2, f83_62 n fu (nI c) (nI q) s = f83_112 n (sI s2 1007 14 (s2.1 1007 14 + 1)) ∧ f221_104 n r27 fu2 x1 x2 (nI c) (nI q) t = f221_153 n r27 x1 x2 (sI t2 1132 20 (t2.1 1132 20 + 1)) ∧ RUN G F2 W2 B2 C2 x y s2 t2 ∧ Nob n x s2 ∧ B2 ≤ B + m ∧ C2 ≤ C + 100 * m := by
  intro m
  induction m with
  | zero =>
    intro q fu fu2 B C F W s t h hN hq hf hf2 hB hC
    obtain ⟨fu, rfl⟩ : ∃ f0, fu = f0 + 1 := ⟨fu - 1, by omega⟩
    obtain ⟨fu2, rfl⟩ : ∃ f0, fu2 = f0 + 1 := ⟨fu2 - 1, by omega⟩
    refine ⟨s, t, F, W, B, C, ?_, ?_, h, hN, by omega, by omega⟩
    · rw [f83_62, show q = c by omega, if_neg Int32.lt_irrefl, zlet]
    · rw [f221_104, show q = c by omega, if_neg Int32.lt_irrefl, zlet]
  | succ m ih =>
    intro q fu fu2 B C F W s t h hN hq hf hf2 hB hC
    obtain ⟨fu, rfl⟩ : ∃ f0, fu = f0 + 1 := ⟨fu - 1, by omega⟩
    obtain ⟨fu2, rfl⟩ : ∃ f0, fu2 = f0 + 1 := ⟨fu2 - 1, by omega⟩
    obtain ⟨g1, g2⟩ := hG q (by omega)
    obtain ⟨o1, o2⟩ := h.2.2.1.1.2.2.2.2.2.2.2.2.1 q (by omega)
    rw [g1] at o2
    have rt := h.1.2.2.2.2.2.2
    generalize G 20 q = i at o1 o2 g2
    have lq : nI q < nI c := (nltN (by omega) (by omega)).mpr (by omega)
    have zq : zin? (nI q) 8 = true := (zinN (by omega)).mpr (by omega)
    have zq3 : zin? (nI q) 3 = true := (zinN (by omega)).mpr (by omega)
    have zi : zin? (nI i) 8 = true := (zinN (by omega)).mpr g2
    have nq := nxN (show q < 2 ^ 31 by omega)
    have ni := nxN (show i < 2 ^ 31 by omega)
    have est : t.1 1225 i = s.1 (1036 + 3 * i) 3 := by
      obtain ⟨-, ⟨a, k, -, b2, b3, -⟩, -⟩ := h.2.2.2.2.1 i g2 (by omega)
      rw [b2, b3]
    have e96 : ∀ u : zσ, f83_96 n (f83_62 n fu) (nI c) (nI q) u = f83_62 n fu (nI c) (nI (q + 1)) u := by
      intro u; unfold f83_96; rw [naddL]
    have e137 : ∀ u : zσ, f221_137 n r27 (f221_104 n r27 fu2) x1 x2 (nI c) (nI q) u = f221_104 n r27 fu2 x1 x2 (nI c) (nI (q + 1)) u := by
      intro u; unfold f221_137; rw [naddL]
    have eC : f83_62 n (fu + 1) (nI c) (nI q) s = (if s.1 (1036 + 3 * i) 3 = 1 then yb0 (f89 n (1036 + 3 * i) s) fun u3 => yb0 (f132 n u3) fun u4 => f83_62 n fu (nI c) (nI (q + 1)) u4 else f83_62 n fu (nI c) (nI (q + 1)) s) := by
      rw [f83_62, if_pos lq, if_pos zq, nq, o1, if_pos zi, ni, rt i g2, grd (gck8 g2)]
      simp only [e96]
    have eM : f221_104 n r27 (fu2 + 1) x1 x2 (nI c) (nI q) t = (if s.1 (1036 + 3 * i) 3 = 1 then yb0 (f241 n (nI i) t) fun u2 => f221_104 n r27 fu2 x1 x2 (nI c) (nI (q + 1)) u2 else f221_104 n r27 fu2 x1 x2 (nI c) (nI (q + 1)) t) := by
      rw [f221_104, if_pos lq, if_pos zq3, nq, o2, if_pos zi, ni, est, if_pos zq3]
      simp only [e137]
    rw [eC, eM]
    by_cases w : s.1 (1036 + 3 * i) 3 = 1
    · rw [if_pos w, if_pos w]
      obtain ⟨s1, t1, F1, W1, B1, C1, p1, p2, p3, p4, p5, p6⟩ := perf_ok ⟨hn, by omega, by omega⟩ (by omega) h hN g2 w
      obtain ⟨s2, t2, F2, W2, B2, C2, i1, i2, i3, i4, i5, i6⟩ := ih (q + 1) fu fu2 B1 C1 F1 W1 s1 t1 p3 p6 (by omega) (by omega) (by omega) (by omega) (by omega)
      refine ⟨s2, t2, F2, W2, B2, C2, ?_, by rw [p2, gy0, i2], i3, i4, by omega, by omega⟩
      rw [← i1]
      cases e : f89 n (1036 + 3 * i) s with
      | none => rw [e] at p1; cases p1
      | some u3 =>
        rw [e, gy0] at p1
        rw [gy0, p1, gy0]
    · rw [if_neg w, if_neg w]
      obtain ⟨s2, t2, F2, W2, B2, C2, i1, i2, i3, i4, i5, i6⟩ := ih (q + 1) fu fu2 B C F W s t h hN (by omega) (by omega) (by omega) (by omega) (by omega)
      exact ⟨s2, t2, F2, W2, B2, C2, i1, i2, i3, i4, by omega, by omega⟩
end ZCR
