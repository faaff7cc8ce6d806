/-! the end of the second pass: the text -/
section ZRU
variable {U : Nat → Nat} {len x y n np q nd cd us es na nb N : Nat} {s0 t0 tz s : zσ} {G : Nat → Nat → Nat} {cnt : Nat → Nat}
theorem text_end (hS : S0 U len x y s0 t0) (hQ : HQ n U len x y s0 t0 1 tz G 0) (hG : HG 1 y tz G) (h : DR U len x y s0 t0 1 np tz G cnt N q nd cd us es na nb s tz) (hc : ∀ c, c < 9 → G 6 c = cnt c) (hm : s.1 1004 12 = -1) : ∃ G2, (∀ k, G2 0 k = G 0 k ∧ G2 6 k = G 6 k) ∧ TX G2 x y s (tzMp tz y) := by
  have hx := hS.1
  have hy := hS.2.1
  obtain ⟨b1, b2, b3, b4, b5, b6⟩ := DR_b h
  obtain ⟨hR, -, hD, hV, hGD⟩ := h
  obtain ⟨z1, z2, z3, z4, z5⟩ := hG rfl
  have e0 : G 0 0 = na := (nI_eq (by omega) (by omega)).mp (z1.symm.trans hR.2.1.2.1)
  have e1 : G 0 1 = nb := (nI_eq (by omega) (by omega)).mp (z2.symm.trans hR.2.2.1.2.1)
  obtain ⟨-, x1, x2, x3, -⟩ := hR.1.2.2.2.2.2.2.2 rfl
  obtain ⟨n1, N1, n2, n3, n4, n5, n6⟩ := hQ.2.2.2.2.1 rfl
  obtain ⟨G', g1, g2, g3, g4, g5, g6⟩ := GD_end hGD hm
  have gf : ∀ f k, f ≠ 8 ∧ f ≠ 9 ∧ f ≠ 11 ∧ f ≠ 14 ∧ f ≠ 15 → Gf x y s (tzMp tz y) G' f k = G' f k := fun f k h => Gf_o h
  have f0 : ∀ k, Gf x y s (tzMp tz y) G' 0 k = G 0 k := fun k => (gf 0 k (by omega)).trans (g1 k).1
  have f6 : ∀ k, Gf x y s (tzMp tz y) G' 6 k = G 6 k := fun k => (gf 6 k (by omega)).trans (g1 k).2.1
  have f12 : ∀ k, Gf x y s (tzMp tz y) G' 12 k = G 12 k := fun k => (gf 12 k (by omega)).trans (g1 k).2.2.1
  have tm : ∀ a, a ≠ y + 33 ∧ a ≠ y + 34 → (tzMp tz y).1 a = tz.1 a := fun a h => tzM_1 h
  obtain ⟨d1, d2, d3, -⟩ := hD
  refine ⟨Gf x y s (tzMp tz y) G', fun k => ⟨f0 k, f6 k⟩, ⟨fun k hk => ?_, ?_, ⟨?_, ?_, ?_, ?_, ?_⟩, N1, n2, ?_, fun k hk => ?_, fun c i hc2 hi => ?_, n6⟩, ⟨fun k hk => ?_, fun k hk => ⟨?_, ?_, fun hk2 => ?_⟩, fun k hk => ?_, fun k hk => ?_⟩, tB_end (na := na) (nb := nb) (cnt := cnt) ⟨(g1 0).1.trans e0, b4⟩ ⟨(g1 1).1.trans e1, by omega⟩ ((g1 8).2.1.trans (hc 8 (by omega))) ((g1 7).2.1.trans (hc 7 (by omega))) g2 g6, tS_end (na := na) ⟨(g1 0).1.trans e0, b4⟩ g5⟩
  · rw [f6, tm _ (by omega), x2]
    exact ⟨(n1 k hk).1, by rw [hc k hk]; exact (d1 k hk).2.1, (n1 k hk).2⟩
  · rw [f6, f6, f6, f6, f6, f6, f6, hc 1 (by omega), hc 2 (by omega), hc 3 (by omega), hc 4 (by omega), hc 5 (by omega), hc 6 (by omega), hc 7 (by omega)]
    omega
  · rw [f0, e0]; exact hR.2.1.1
  · rw [f0, tm _ (by omega)]; exact z1
  · rw [f0]; exact z3
  · rw [tm _ (by omega), hR.1.2.2.2.2.1.1, hR.1.2.2.2.2.1.2.1]
  · rw [f0, e1]; omega
  · rw [tm _ (by omega)]; exact n3
  · obtain ⟨c, i, p1, p2, p3, p4, p5⟩ := n4 k hk
    exact ⟨c, i, p1, by rw [f6]; exact p2, by rw [tm _ (by omega)]; exact p3, by rw [tm _ (by omega)]; exact p4, by rw [x3 c p1]; exact p5⟩
  · rw [f6] at hi
    obtain ⟨k, p1, p2, p3, p4⟩ := n5 c i hc2 hi
    exact ⟨k, p1, by rw [tm _ (by omega)]; exact p2, by rw [tm _ (by omega)]; exact p3, by rw [x3 c hc2]; exact p4⟩
  · rw [f6, hc 0 (by omega)] at hk
    rw [tm _ (by omega)]; exact hV.1 k hk
  · exact (hV.2.1 k hk).1
  · rw [tm _ (by omega)]; exact hR.1.2.1.1.1.2.2.2.2 k hk
  · rw [f6, hc 2 (by omega)] at hk2
    rw [tm _ (by omega)]; exact (hV.2.1 k hk).2 hk2
  · rw [f6, hc 8 (by omega)] at hk
    obtain ⟨w1, w2, b, c1, c2, c3⟩ := hV.2.2.1 k hk
    obtain ⟨b', k1, k2, k3, k4⟩ := g3 k hk
    have eb : b' = b := (nI_eq (by omega) (by omega)).mp (k2.symm.trans c2)
    subst eb
    have e14 : Gf x y s (tzMp tz y) G' 14 k = b' := by
      show nx (s.1 (x + 16) k) = b'
      rw [k2, nx_nI (by omega)]
    rw [tm _ (by omega), tm _ (by omega), tm _ (by omega), e14, f0, e1, gf 2 _ (by omega), gf 3 _ (by omega)]
    exact ⟨w1, w2, k1, k2, c3, k3, k4⟩
  · rw [f6, hc 7 (by omega)] at hk
    obtain ⟨⟨b, c1, c2, c3⟩, m, m1, m2, m3⟩ := hV.2.2.2 k hk
    obtain ⟨b', k1, k2, k3, k4⟩ := g4 k hk
    have eb : b' = b := (nI_eq (by omega) (by omega)).mp (k2.symm.trans c2)
    subst eb
    have e15 : Gf x y s (tzMp tz y) G' 15 k = b' := by
      show nx (s.1 (x + 17) k) = b'
      rw [k2, nx_nI (by omega)]
    rw [tm _ (by omega), e15, f0, e1, f12, gf 2 _ (by omega), gf 3 _ (by omega)]
    exact ⟨(z5 k (by rw [hc 7 (by omega)]; exact hk)).2, k1, k2, c3, k3, k4⟩
end ZRU
