/-! what the readers leave of statements and blocks -/
section ZQD
/-- t's statements and blocks, all else of tz -/
def hyb (y : Nat) (t tz : zσ) : zσ := (fun a k => if y + 13 ≤ a ∧ a ≤ y + 24 then t.1 a k else (tzMp tz y).1 a k, tz.2)
variable {U : Nat → Nat} {len x y n K np bl ub q dp nd cd us es na nb q2 dp2 nd2 cd2 us2 r nb0 cd0 mE na2 nb2 : Nat} {s0 t0 tz s t s2 t2 s3 t3 sS tS : zσ} {G G2 G3 : Nat → Nat → Nat} {c m L E : Nat → Int32} {cs : Nat → Nat}
theorem hyb_t {a k : Nat} (h : y + 13 ≤ a ∧ a ≤ y + 24) : (hyb y t tz).1 a k = t.1 a k := if_pos h
theorem hyb_z {a k : Nat} (h : ¬ (y + 13 ≤ a ∧ a ≤ y + 24)) : (hyb y t tz).1 a k = (tzMp tz y).1 a k := if_neg h
/-- ghosts of what there is stay -/
def GX (G G2 : Nat → Nat → Nat) (na nb : Nat) : Prop := (∀ k, G2 0 k = G 0 k ∧ G2 6 k = G 6 k ∧ G2 12 k = G 12 k ∧ G2 13 k = G 13 k) ∧ (∀ r, r < na → G2 1 r = G 1 r ∧ G2 10 r = G 10 r) ∧ (∀ b, b < nb → G2 2 b = G 2 b ∧ G2 3 b = G 3 b ∧ G2 4 b = G 4 b ∧ G2 5 b = G 5 b ∧ G2 7 b = G 7 b)
theorem GX_rf : GX G G na nb := ⟨fun _ => ⟨rfl, rfl, rfl, rfl⟩, fun _ _ => ⟨rfl, rfl⟩, fun _ _ => ⟨rfl, rfl, rfl, rfl, rfl⟩⟩
theorem GX_tr (h1 : GX G G2 na nb) (h2 : GX G2 G3 na2 nb2) (l1 : na ≤ na2) (l2 : nb ≤ nb2) : GX G G3 na nb := by
  obtain ⟨a1, a2, a3⟩ := h1
  obtain ⟨b1, b2, b3⟩ := h2
  refine ⟨fun k => ?_, fun r hr => ?_, fun b hb => ?_⟩
  · obtain ⟨c1, c2, c3, c4⟩ := a1 k
    obtain ⟨d1, d2, d3, d4⟩ := b1 k
    exact ⟨d1.trans c1, d2.trans c2, d3.trans c3, d4.trans c4⟩
  · exact ⟨(b2 r (by omega)).1.trans (a2 r hr).1, (b2 r (by omega)).2.trans (a2 r hr).2⟩
  · obtain ⟨c1, c2, c3, c4, c5⟩ := a3 b hb
    obtain ⟨d1, d2, d3, d4, d5⟩ := b3 b (by omega)
    exact ⟨d1.trans c1, d2.trans c2, d3.trans c3, d4.trans c4, d5.trans c5⟩
theorem GX_le (h : GX G G2 na2 nb2) (l1 : na ≤ na2) (l2 : nb ≤ nb2) : GX G G2 na nb := ⟨h.1, fun r hr => h.2.1 r (by omega), fun b hb => h.2.2 b (by omega)⟩
/-- the ghosts that the readers' relation uses -/
def CP (G G2 : Nat → Nat → Nat) (bl : Nat) : Prop := (∀ k, G2 0 k = G 0 k ∧ G2 6 k = G 6 k ∧ G2 12 k = G 12 k ∧ G2 13 k = G 13 k) ∧ (G2 2 bl = G 2 bl ∧ G2 3 bl = G 3 bl ∧ G2 4 bl = G 4 bl ∧ G2 5 bl = G 5 bl ∧ G2 7 bl = G 7 bl)
theorem CP_X (h : CP G G2 bl) (h2 : GX G2 G3 na nb) (hb : bl < nb) : CP G G3 bl := by
  obtain ⟨a1, a2, a3, a4, a5, a6⟩ := h
  obtain ⟨b1, -, b3⟩ := h2
  refine ⟨fun k => ?_, ?_⟩
  · obtain ⟨c1, c2, c3, c4⟩ := a1 k
    obtain ⟨d1, d2, d3, d4⟩ := b1 k
    exact ⟨d1.trans c1, d2.trans c2, d3.trans c3, d4.trans c4⟩
  · obtain ⟨d1, d2, d3, d4, d5⟩ := b3 bl hb
    exact ⟨d1.trans a2, d2.trans a3, d3.trans a4, d4.trans a5, d5.trans a6⟩
/-- a statement's own data -/
def dS0 (G : Nat → Nat → Nat) (x y r : Nat) (s h : zσ) : Prop := (G 1 r < G 0 1 ∧ s.1 (x + 26) r = nI (G 1 r) ∧ s.1 (x + 20) r = nI (zkd (G 10 r)) ∧ h.1 (y + 15) r = nI (G 10 r)) ∧ tO G x y r s h
def dN (G : Nat → Nat → Nat) (x y na r : Nat) (s h : zσ) : Prop := (s.1 (x + 25) r = -1 ∧ h.1 (y + 16) r = -1) ∨ (∃ q, q < na ∧ G 1 q = G 1 r ∧ s.1 (x + 25) r = nI q ∧ h.1 (y + 16) r = nI q)
/-- a block's -/
def dB (G : Nat → Nat → Nat) (x y na nb b : Nat) (s h : zσ) : Prop :=
  (s.1 (x + 30) b = nI (G 2 b) ∧ G 2 b ≤ 4 ∧ s.1 (x + 31) b = nI (G 3 b) ∧ 1 ≤ G 4 b ∧ G 4 b ≤ 12) ∧
  ((s.1 (x + 32) b = -1 ∧ h.1 (y + 13) b = -1) ∨ (∃ r, r < na ∧ G 1 r = b ∧ s.1 (x + 32) b = nI r ∧ h.1 (y + 13) b = nI r)) ∧
  (G 2 b = 0 → G 5 b = G 3 b ∧ G 7 b = b) ∧
  (G 2 b = 1 → G 5 b = 8 + G 3 b ∧ G 7 b = b) ∧
  (G 2 b = 2 ∨ G 2 b = 3 → G 3 b < na ∧ G 4 b = G 4 (G 1 (G 3 b)) + 1 ∧ G 5 b = G 5 (G 1 (G 3 b)) ∧ G 7 b = b ∧ G 10 (G 3 b) = G 2 b + 3) ∧
  (G 2 b = 4 → G 3 b < nb ∧ G 4 b = G 4 (G 3 b) + 1 ∧ G 5 b = G 5 (G 3 b) ∧ G 7 b = G 7 (G 3 b)) ∧
  (G 7 b < nb ∧ G 2 (G 7 b) ≠ 4 ∧ G 5 (G 7 b) = G 5 b ∧ G 4 (G 7 b) ≤ G 4 b) ∧
  (∃ l, cR x s (s.1 (x + 33) b) l ∧ l.length ≤ 20 ∧ (∀ r, r ∈ l → G 2 r = 4 ∧ G 3 r = b ∧ r < nb) ∧ ∀ w, w < 20 → (h.1 (y + 14) (20 * b + w) = -1 ∧ l.find? (fun r => decide (s.1 (x + 35) r = nI w)) = none) ∨ (∃ r, h.1 (y + 14) (20 * b + w) = nI r ∧ l.find? (fun r => decide (s.1 (x + 35) r = nI w)) = some r))
/-- fields that stay -/
def FS (x y r : Nat) (s t s2 t2 : zσ) : Prop := (∀ j, j < 7 → j ≠ 5 → s2.1 (x + 20 + j) r = s.1 (x + 20 + j) r) ∧ (∀ j, j < 10 → j ≠ 1 → j ≠ 6 → j ≠ 7 → t2.1 (y + 15 + j) r = t.1 (y + 15 + j) r) ∧ (∀ k, k < 4 → t2.1 (y + 21) (4 * r + k) = t.1 (y + 21) (4 * r + k) ∧ t2.1 (y + 22) (4 * r + k) = t.1 (y + 22) (4 * r + k))
def FN (x y r : Nat) (s t s2 t2 : zσ) : Prop := s2.1 (x + 25) r = s.1 (x + 25) r ∧ t2.1 (y + 16) r = t.1 (y + 16) r
def FB (x y b : Nat) (s t s2 t2 : zσ) : Prop := (∀ j, j < 4 → s2.1 (x + 30 + j) b = s.1 (x + 30 + j) b) ∧ t2.1 (y + 13) b = t.1 (y + 13) b ∧ (∀ w, w < 20 → t2.1 (y + 14) (20 * b + w) = t.1 (y + 14) (20 * b + w))
def FL (x b : Nat) (s s2 : zσ) : Prop := s2.1 (x + 34) b = s.1 (x + 34) b ∧ s2.1 (x + 35) b = s.1 (x + 35) b
def Fut (x y na0 na1 nb0 nb1 cd1 er eb : Nat) (G : Nat → Nat → Nat) (s t : zσ) (G2 : Nat → Nat → Nat) (s2 t2 : zσ) : Prop := GX G G2 na1 nb1 ∧ (∀ r, na0 ≤ r → r < na1 → FS x y r s t s2 t2 ∧ (r ≠ er → FN x y r s t s2 t2)) ∧ (∀ b, nb0 ≤ b → b < nb1 → FB x y b s t s2 t2 ∧ (b ≠ eb → FL x b s s2)) ∧ (∀ p, p < cd1 → s2.1 (x + 27) p = s.1 (x + 27) p ∧ s2.1 (x + 28) p = s.1 (x + 28) p)
def dA (x y na0 na1 nb0 nb1 er : Nat) (tz : zσ) (G : Nat → Nat → Nat) (s t : zσ) : Prop := (∀ r, na0 ≤ r → r < na1 → dS0 G x y r s (hyb y t tz) ∧ (r ≠ er → dN G x y na1 r s (hyb y t tz))) ∧ (∀ b, nb0 ≤ b → b < nb1 → dB G x y na1 nb1 b s (hyb y t tz))
/-- the data are there, whatever comes -/
def PD (x y na0 na1 nb0 nb1 cd1 er eb : Nat) (tz : zσ) (G : Nat → Nat → Nat) (s t : zσ) : Prop := ∀ G2 s2 t2, Fut x y na0 na1 nb0 nb1 cd1 er eb G s t G2 s2 t2 → dA x y na0 na1 nb0 nb1 er tz G2 s2 t2
/-! the data of a statement -/
theorem uA_h {a w : Int32} {c0 : Nat} (h6 : ∀ k, G2 6 k = G 6 k) (h : uA G y c0 (tzMp tz y) a w) : uA G2 y c0 (hyb y t tz) a w := by
  obtain ⟨u, v, a1, a2, a3, a4, a5⟩ := h
  exact ⟨u, v, a1, by rw [h6]; exact a2, a3, by rw [hyb_z (by omega)]; exact a4, a5⟩
theorem uV_h {a w : Int32} (h6 : ∀ k, G2 6 k = G 6 k) (h12 : ∀ k, G2 12 k = G 12 k) (h5 : G2 5 bl = G 5 bl) (h : uV G y bl (tzMp tz y) a w) : uV G2 y bl (hyb y t tz) a w := by
  obtain ⟨u, v, a1, a2, a3, a4⟩ := h
  refine ⟨u, v, a1, a2, by rw [hyb_z (by omega)]; exact a3, ?_⟩
  rw [hyb_z (by omega), h6, h5, h12]; exact a4
theorem tX_h {i j : Nat} (hG : CP G G2 bl) (hj : j ≤ 400) (hc : ∀ p, p < j → s2.1 (x + 27) p = s.1 (x + 27) p ∧ s2.1 (x + 28) p = s.1 (x + 28) p) (h : sg G x y bl s (tzMp tz y) i j 0 40) : tX G2 x y bl i j s2 (hyb y t tz) := by
  obtain ⟨h1, f, h2, h3, h4⟩ := h
  have h6 : ∀ k, G2 6 k = G 6 k := fun k => (hG.1 k).2.1
  have h12 : ∀ k, G2 12 k = G 12 k := fun k => (hG.1 k).2.2.1
  have h13 : ∀ k, G2 13 k = G 13 k := fun k => (hG.1 k).2.2.2
  have h5 : G2 5 bl = G 5 bl := hG.2.2.2.2.1
  refine ⟨h1, hj, f, h2, by omega, fun p a b => ?_⟩
  obtain ⟨w, e, k⟩ := h4 p a b
  refine ⟨?_, ?_⟩
  · unfold tH
    rw [h13]; exact w
  · unfold tC
    rw [hyb_z (by omega), hyb_z (by omega), h13, (hc p b).1, (hc p b).2]
    refine ⟨e, ?_⟩
    rcases k with k | ⟨k1, k2, k3⟩ | ⟨k1, k2, k3⟩ | ⟨k1, k2, k3⟩ | k | ⟨k1, k2, k3⟩ | k | k
    · exact Or.inl k
    · exact Or.inr (Or.inl ⟨k1, k2, uV_h h6 h12 h5 k3⟩)
    · exact Or.inr (Or.inr (Or.inl ⟨k1, k2, uA_h h6 k3⟩))
    · exact Or.inr (Or.inr (Or.inr (Or.inl ⟨k1, k2, uA_h h6 k3⟩)))
    · exact Or.inr (Or.inr (Or.inr (Or.inr (Or.inl k))))
    · exact Or.inr (Or.inr (Or.inr (Or.inr (Or.inr (Or.inl ⟨k1, k2, uA_h h6 k3⟩)))))
    · exact Or.inr (Or.inr (Or.inr (Or.inr (Or.inr (Or.inr (Or.inl k))))))
    · exact Or.inr (Or.inr (Or.inr (Or.inr (Or.inr (Or.inr (Or.inr k))))))
theorem tE_h (hG : CP G G2 bl) (h1 : G2 1 r = bl) (hF : SF x y r c m L E s t) (hS : FS x y r s t s2 t2) (hcd : cs mE ≤ 400) (h3 : c 3 = nI (cs 0)) (h4 : c 4 = nI (cs mE)) (hm : mE ≤ 4) (hc : ∀ p, p < cs mE → s2.1 (x + 27) p = s.1 (x + 27) p ∧ s2.1 (x + 28) p = s.1 (x + 28) p) (hX : XE G x y bl tz E mE cs s) : tE G2 x y r mE s2 (hyb y t2 tz) := by
  refine ⟨cs, ?_, ?_, hcd, fun k hk => ?_⟩
  · rw [← h3, ← hF.1 3 (by omega)]; exact hS.1 3 (by omega) (by omega)
  · rw [← h4, ← hF.1 4 (by omega)]; exact hS.1 4 (by omega) (by omega)
  · obtain ⟨e, a1, a2, a3, a4, a5, a6⟩ := hX k hk
    refine ⟨e, a1, ?_, ?_, ?_, ?_⟩
    · rw [hyb_t (by omega), (hS.2.2 k (by omega)).2, (hF.2.2 k (by omega)).2]; exact a2
    · rw [hyb_z (by omega), tzM_o (by omega) (by omega)]; exact a3
    · rw [hyb_z (by omega), tzM_o (by omega) (by omega)]; exact a4
    · rw [h1]; exact tX_h hG (by omega) (fun p hp => hc p (by omega)) a6
theorem OD_h {kk : Nat} (hG : CP G G2 bl) (h1 : G2 1 r = bl) (h10 : G2 10 r = kk) (hF : SF x y r c m L E s t) (hS : FS x y r s t s2 t2) (hcd : cs mE ≤ 400) (h3 : c 3 = nI (cs 0)) (h4 : c 4 = nI (cs mE)) (hc : ∀ p, p < cs mE → s2.1 (x + 27) p = s.1 (x + 27) p ∧ s2.1 (x + 28) p = s.1 (x + 28) p) (hX : XE G x y bl tz E mE cs s) (h123 : ∀ p, p < G 6 7 → G 12 p ≤ 3) (hO : OD G y bl tz kk c m L mE) : tO G2 x y r s2 (hyb y t2 tz) := by
  have h6 : ∀ k, G2 6 k = G 6 k := fun k => (hG.1 k).2.1
  have h12 : ∀ k, G2 12 k = G 12 k := fun k => (hG.1 k).2.2.1
  have h5 : G2 5 bl = G 5 bl := hG.2.2.2.2.1
  have f1 : s2.1 (x + 21) r = c 1 := by rw [← hF.1 1 (by omega)]; exact hS.1 1 (by omega) (by omega)
  have f2 : s2.1 (x + 22) r = c 2 := by rw [← hF.1 2 (by omega)]; exact hS.1 2 (by omega) (by omega)
  have gm : ∀ j, j < 10 → j ≠ 1 → j ≠ 6 → j ≠ 7 → (hyb y t2 tz).1 (y + 15 + j) r = m j := fun j a b d e => by
    rw [hyb_t (by omega), hS.2.1 j a b d e]; exact hF.2.1 j a d e
  have g2 : (hyb y t2 tz).1 (y + 17) r = m 2 := gm 2 (by omega) (by omega) (by omega) (by omega)
  have g3 : (hyb y t2 tz).1 (y + 18) r = m 3 := gm 3 (by omega) (by omega) (by omega) (by omega)
  have g4 : (hyb y t2 tz).1 (y + 19) r = m 4 := gm 4 (by omega) (by omega) (by omega) (by omega)
  have g5 : (hyb y t2 tz).1 (y + 20) r = m 5 := gm 5 (by omega) (by omega) (by omega) (by omega)
  have gL : ∀ k, k < 4 → (hyb y t2 tz).1 (y + 21) (4 * r + k) = L k := fun k hk => by
    rw [hyb_t (by omega), (hS.2.2 k hk).1]; exact (hF.2.2 k hk).1
  have gE : mE ≤ 4 → tE G2 x y r mE s2 (hyb y t2 tz) := fun hm => tE_h hG h1 hF hS hcd h3 h4 hm hc hX
  unfold tO
  simp only [f1, f2, g2, g3, g4, g5, h10, h1]
  unfold OD at hO
  simp only at hO
  rcases hO with ⟨k1, k2, k3⟩ | ⟨k1, k2, k3⟩ | ⟨k1, k2, k3, p, k4, k5, k6, k7⟩ | ⟨k1, k2, k3⟩ | ⟨k1, k2, k3⟩ | ⟨k1, k2, k3, k4⟩ | ⟨k1, k2, k3⟩ | ⟨k1, ⟨l, l1, l2, l3, l4, l5, l6⟩, k3⟩ | ⟨k1, k2, k3⟩ | ⟨k1, k2, k3⟩ | ⟨k1, k2, k3, k4⟩ | ⟨k1, k2, k3, k4⟩ | ⟨k1, k2, k3, k4⟩ | ⟨k1, k2, k3, k4⟩ | ⟨k1, k2⟩ | ⟨k1, k2, k3, k4⟩ | ⟨k1, k2, k3⟩ | ⟨k1, k2, k3⟩ | ⟨k1, k2⟩
  · exact Or.inl ⟨k1, uV_h h6 h12 h5 k2, by rw [← k3]; exact gE (by omega)⟩
  · exact Or.inr (Or.inl ⟨k1, uA_h h6 k2, by rw [← k3]; exact gE (by omega)⟩)
  · exact Or.inr (Or.inr (Or.inl ⟨k1, k2.elim Or.inl (fun k => Or.inr (uV_h h6 h12 h5 k)), uA_h h6 k3, p, by rw [h6]; exact k4, k5, by rw [h12]; exact k6, by rw [h12, ← k7]; exact gE (by have := h123 p k4; omega)⟩))
  · exact Or.inr (Or.inr (Or.inr (Or.inl ⟨k1, by rw [← k2]; exact gE (by omega), by rw [h5]; exact k3⟩)))
  · exact Or.inr (Or.inr (Or.inr (Or.inr (Or.inr (Or.inr (Or.inl ⟨k1, uA_h h6 k2, by rw [← k3]; exact gE (by omega)⟩))))))
  · exact Or.inr (Or.inr (Or.inr (Or.inr (Or.inr (Or.inr (Or.inr (Or.inl ⟨k1, uA_h h6 k2, uA_h h6 k3, by rw [← k4]; exact gE (by omega)⟩)))))))
  · exact Or.inr (Or.inr (Or.inr (Or.inr (Or.inr (Or.inr (Or.inr (Or.inr (Or.inl ⟨k1, uA_h h6 k2, by rw [← k3]; exact gE (by omega)⟩))))))))
  · refine Or.inr (Or.inr (Or.inr (Or.inr (Or.inr (Or.inr (Or.inr (Or.inr (Or.inr (Or.inl ⟨k1, ⟨l, l1, fun v hv => by rw [h6]; exact l2 v hv, f1.trans l3, g5.trans l4, fun k hk => ?_, g2.trans l6⟩, by rw [← k3]; exact gE (by omega)⟩)))))))))
    obtain ⟨u, u1, u2, u3⟩ := l5 k hk
    exact ⟨u, u1, by rw [gL k (by omega)]; exact u2, by rw [hyb_z (by omega)]; exact u3⟩
  · exact Or.inr (Or.inr (Or.inr (Or.inr (Or.inr (Or.inr (Or.inr (Or.inr (Or.inr (Or.inr (Or.inl ⟨k1, uA_h h6 k2, by rw [← k3]; exact gE (by omega)⟩))))))))))
  · refine Or.inr (Or.inr (Or.inr (Or.inr (Or.inr (Or.inr (Or.inr (Or.inr (Or.inr (Or.inr (Or.inr (Or.inl ⟨k1, uA_h h6 k2, ?_⟩)))))))))))
    rcases k3 with ⟨a1, a2, a3⟩ | ⟨a1, a2, a3, a4⟩ | ⟨a1, a2, a3, a4⟩ | ⟨a1, a2, a3, a4⟩ | ⟨a1, a2, a3, a4⟩ | ⟨a1, a2, a3⟩
    · exact Or.inl ⟨a1, a2, by rw [← a3]; exact gE (by omega)⟩
    · exact Or.inr (Or.inl ⟨a1, a2, a3, by rw [← a4]; exact gE (by omega)⟩)
    · exact Or.inr (Or.inr (Or.inl ⟨a1, a2, a3, by rw [← a4]; exact gE (by omega)⟩))
    · exact Or.inr (Or.inr (Or.inr (Or.inl ⟨a1, a2, a3, by rw [← a4]; exact gE (by omega)⟩)))
    · exact Or.inr (Or.inr (Or.inr (Or.inr (Or.inl ⟨a1, a2, a3, by rw [← a4]; exact gE (by omega)⟩))))
    · exact Or.inr (Or.inr (Or.inr (Or.inr (Or.inr ⟨a1, uA_h h6 a2, by rw [← a3]; exact gE (by omega)⟩))))
  · exact Or.inr (Or.inr (Or.inr (Or.inr (Or.inr (Or.inr (Or.inr (Or.inr (Or.inr (Or.inr (Or.inr (Or.inr (Or.inl ⟨k1, k2, k3.elim Or.inl (fun k => Or.inr (uA_h h6 k)), by rw [← k4]; exact gE (by omega)⟩))))))))))))
  · exact Or.inr (Or.inr (Or.inr (Or.inr (Or.inr (Or.inr (Or.inr (Or.inr (Or.inr (Or.inr (Or.inr (Or.inr (Or.inr (Or.inl ⟨k1, k2, uA_h h6 k3, by rw [← k4]; exact gE (by omega)⟩)))))))))))))
  · exact Or.inr (Or.inr (Or.inr (Or.inr (Or.inr (Or.inr (Or.inr (Or.inr (Or.inr (Or.inr (Or.inr (Or.inr (Or.inr (Or.inr (Or.inl ⟨k1, k2, uA_h h6 k3, by rw [← k4]; exact gE (by omega)⟩))))))))))))))
  · exact Or.inr (Or.inr (Or.inr (Or.inr (Or.inr (Or.inr (Or.inr (Or.inr (Or.inr (Or.inr (Or.inr (Or.inr (Or.inr (Or.inr (Or.inr (Or.inl ⟨k1, k2, uA_h h6 k3, by rw [← k4]; exact gE (by omega)⟩)))))))))))))))
  · exact Or.inr (Or.inr (Or.inr (Or.inr (Or.inr (Or.inr (Or.inr (Or.inr (Or.inr (Or.inr (Or.inr (Or.inr (Or.inr (Or.inr (Or.inr (Or.inr (Or.inl ⟨k1, by rw [← k2]; exact gE (by omega)⟩))))))))))))))))
  · exact Or.inr (Or.inr (Or.inr (Or.inr (Or.inr (Or.inr (Or.inr (Or.inr (Or.inr (Or.inr (Or.inr (Or.inr (Or.inr (Or.inr (Or.inr (Or.inr (Or.inr (Or.inl ⟨k1, uA_h h6 k2, uA_h h6 k3, by rw [← k4]; exact gE (by omega)⟩)))))))))))))))))
  · exact Or.inr (Or.inr (Or.inr (Or.inr (Or.inr (Or.inr (Or.inr (Or.inr (Or.inr (Or.inr (Or.inr (Or.inr (Or.inr (Or.inr (Or.inr (Or.inr (Or.inr (Or.inr (Or.inl ⟨k1, uA_h h6 k2, by rw [← k3]; exact gE (by omega)⟩))))))))))))))))))
  · exact Or.inr (Or.inr (Or.inr (Or.inr (Or.inr (Or.inr (Or.inr (Or.inr (Or.inr (Or.inr (Or.inr (Or.inr (Or.inr (Or.inr (Or.inr (Or.inr (Or.inr (Or.inr (Or.inr (Or.inl ⟨k1, uA_h h6 k2, by rw [← k3]; exact gE (by omega)⟩)))))))))))))))))))
  · exact Or.inr (Or.inr (Or.inr (Or.inr (Or.inr (Or.inr (Or.inr (Or.inr (Or.inr (Or.inr (Or.inr (Or.inr (Or.inr (Or.inr (Or.inr (Or.inr (Or.inr (Or.inr (Or.inr (Or.inr (⟨k1, by rw [← k2]; exact gE (by omega)⟩))))))))))))))))))))
end ZQD
