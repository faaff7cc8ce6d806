/-! declarations, both readers: vars, semas and the like -/
section ZRD
/-- what the declared begin with -/
def DV (x y nb : Nat) (cnt : Nat → Nat) (s t : zσ) : Prop := (∀ k, k < cnt 0 → s.1 (x + 12) k = t.1 (y + 5) k) ∧ (∀ k, k < 4 → (∃ v, v ≤ 9 ∧ s.1 (x + 13) k = nI v) ∧ (k < cnt 2 → s.1 (x + 13) k = t.1 (y + 6) k)) ∧ (∀ k, k < cnt 8 → (∃ p, 1 ≤ p ∧ p ≤ 9 ∧ s.1 (x + 14) k = nI p ∧ t.1 (y + 8) k = nI p) ∧ (s.1 (x + 15) k = t.1 (y + 9) k ∧ (s.1 (x + 15) k = 0 ∨ s.1 (x + 15) k = 1)) ∧ (∃ b, b < nb ∧ s.1 (x + 16) k = nI b ∧ t.1 (y + 7) k = nI b)) ∧ (∀ k, k < cnt 7 → (∃ b, b < nb ∧ s.1 (x + 17) k = nI b ∧ t.1 (y + 10) k = nI b) ∧ ∃ m, m ≤ 3 ∧ s.1 (x + 18) k = nI m ∧ t.1 (y + 11) k = nI m)
/-- the data of all blocks and statements so far -/
def GD (K x y : Nat) (tz : zσ) (G : Nat → Nat → Nat) (cnt : Nat → Nat) (na nb cd : Nat) (s t : zσ) : Prop := K = 1 → s.1 1004 12 = -1 → ∃ G', (∀ k, G' 0 k = G 0 k ∧ G' 6 k = G 6 k ∧ G' 12 k = G 12 k ∧ G' 13 k = G 13 k) ∧ (∀ b, b < nb → (G' 2 b = 0 → G' 3 b < cnt 8 ∧ s.1 (x + 16) (G' 3 b) = nI b) ∧ (G' 2 b = 1 → G' 3 b < cnt 7 ∧ s.1 (x + 17) (G' 3 b) = nI b)) ∧ (∀ k, k < cnt 8 → ∃ b, b < nb ∧ s.1 (x + 16) k = nI b ∧ G' 2 b = 0 ∧ G' 3 b = k) ∧ (∀ k, k < cnt 7 → ∃ b, b < nb ∧ s.1 (x + 17) k = nI b ∧ G' 2 b = 1 ∧ G' 3 b = k) ∧ PD x y 0 na 0 nb cd na nb tz G' s t
def DR (U : Nat → Nat) (len x y : Nat) (s0 t0 : zσ) (K np : Nat) (tz : zσ) (G : Nat → Nat → Nat) (cnt : Nat → Nat) (N q nd cd us es na nb : Nat) (s t : zσ) : Prop := SR U len x y s0 t0 K np tz G nb (4 * na) q 0 nd cd us es na nb s t ∧ (s.1 1004 3 = 0 ∧ t.1 1132 15 = -1 ∧ s.1 1004 8 = 0) ∧ DT x y K cnt N s t ∧ DV x y nb cnt s t ∧ GD K x y tz G cnt na nb cd s t
variable {U : Nat → Nat} {len x y n K np bl ub q dp nd cd us es na nb q2 N N2 c : Nat} {s0 t0 tz s t s2 t2 s3 t3 : zσ} {G : Nat → Nat → Nat} {cnt cnt2 : Nat → Nat}
theorem GD_fr (h : GD K x y tz G cnt na nb cd s t) (h7 : cnt2 7 = cnt 7) (h8 : cnt2 8 = cnt 8) (hs : ∀ a, x + 16 ≤ a → a ≤ x + 35 → a ≠ x + 18 → a ≠ x + 19 → s2.1 a = s.1 a) (ht : ∀ a, y + 13 ≤ a → a ≤ y + 24 → t2.1 a = t.1 a) (hm : s2.1 1004 12 = s.1 1004 12) : GD K x y tz G cnt2 na nb cd s2 t2 := by
  intro hK hm2
  obtain ⟨G', g1, g2, g3, g4, g5⟩ := h hK (by rw [← hm]; exact hm2)
  have e16 := hs (x + 16) (by omega) (by omega) (by omega) (by omega)
  have e17 := hs (x + 17) (by omega) (by omega) (by omega) (by omega)
  refine ⟨G', g1, fun b hb => ?_, fun k hk => ?_, fun k hk => ?_, PD_mv g5 ⟨GX_rf, fun r p1 p2 => ⟨⟨fun j a b => by rw [hs _ (by omega) (by omega) (by omega) (by omega)], fun j a b c d => by rw [ht _ (by omega) (by omega)], fun k hk => by rw [ht _ (by omega) (by omega), ht _ (by omega) (by omega)]; exact ⟨rfl, rfl⟩⟩, fun _ => ⟨by rw [hs _ (by omega) (by omega) (by omega) (by omega)], by rw [ht _ (by omega) (by omega)]⟩⟩, fun b p1 p2 => ⟨⟨fun j a => by rw [hs _ (by omega) (by omega) (by omega) (by omega)], by rw [ht _ (by omega) (by omega)], fun w hw => by rw [ht _ (by omega) (by omega)]⟩, fun _ => ⟨by rw [hs _ (by omega) (by omega) (by omega) (by omega)], by rw [hs _ (by omega) (by omega) (by omega) (by omega)]⟩⟩, fun p hp => ⟨by rw [hs _ (by omega) (by omega) (by omega) (by omega)], by rw [hs _ (by omega) (by omega) (by omega) (by omega)]⟩⟩⟩
  · rw [h7, h8, e16, e17]; exact g2 b hb
  · rw [e16]; exact g3 k (by omega)
  · rw [e17]; exact g4 k (by omega)
theorem SR_t (hS : S0 U len x y s0 t0) (h : SR U len x y s0 t0 K np tz G nb (4 * na) q 0 nd cd us es na nb s t) (hE : ER U len x y s0 t0 K np tz G nb (4 * na) q2 0 nd cd us s2 t2) (hf : tF x y s t s2 t2) (hq : q ≤ q2) : SR U len x y s0 t0 K np tz G nb (4 * na) q2 0 nd cd us es na nb s2 t2 := by
  have hx := hS.1
  have hy := hS.2.1
  obtain ⟨-, ⟨a1, a2, a3⟩, ⟨b1, b2, b3⟩, ⟨c1, c2⟩, d1, e1, f1⟩ := h
  obtain ⟨⟨o1, -, -⟩, o2, -, -, o3, o4⟩ := hf
  refine ⟨hE, ⟨?_, ?_, a3⟩, ⟨?_, ?_, by omega⟩, ⟨?_, c2⟩, ?_, MI_fr e1 ?_ (fun u hu => ?_) (fun u a b => by omega) (Nat.le_refl _), fun hK p hp => ?_⟩
  · rw [o1 (x + 19) (by omega) (by omega) (by omega)]; exact a1
  · rw [o3 16 (by decide)]; exact a2
  · rw [o1 (x + 29) (by omega) (by omega) (by omega)]; exact b1
  · rw [o3 13 (by decide)]; exact b2
  · rw [o3 28 (by decide)]; exact c1
  · rw [o1 1004 (by omega) (by omega) (by omega), o4 15 (by decide) (by decide) (by decide) (by decide) (by decide) (by decide) (by decide)]; exact d1
  · rw [o1 1004 (by omega) (by omega) (by omega)]
  · rw [o2 (y + 35) (by omega) (by omega) (by omega) (by omega) (by omega)]
  · rw [o1 (x + 18) (by omega) (by omega) (by omega)]; exact f1 hK p hp
theorem m_169 (hn : 5000 ≤ n) (h : ER U len x y s0 t0 K np tz G bl ub q dp nd cd us s t) : (∀ c, c < 9 → tkKind U len q = nI (128 + c) → f169 n t = some (nI c, t)) ∧ ((∀ c, c < 9 → ¬ tkKind U len q = nI (128 + c)) → f169 n t = some (-1, t)) := by
  have hM := h.2.1.2
  have w0 : f170 n 3 t = some (zone (decide (tkKind U len q = nI (128 + 0))), t) := tm_word (w := 0) hn hM.1 (by decide) (by decide) (by decide +kernel)
  have w1 : f170 n 4 t = some (zone (decide (tkKind U len q = nI (128 + 1))), t) := tm_word (w := 1) hn hM.1 (by decide) (by decide) (by decide +kernel)
  have w2 : f170 n 5 t = some (zone (decide (tkKind U len q = nI (128 + 2))), t) := tm_word (w := 2) hn hM.1 (by decide) (by decide) (by decide +kernel)
  have w3 : f170 n 6 t = some (zone (decide (tkKind U len q = nI (128 + 3))), t) := tm_word (w := 3) hn hM.1 (by decide) (by decide) (by decide +kernel)
  have w4 : f170 n 7 t = some (zone (decide (tkKind U len q = nI (128 + 4))), t) := tm_word (w := 4) hn hM.1 (by decide) (by decide) (by decide +kernel)
  have w5 : f170 n 8 t = some (zone (decide (tkKind U len q = nI (128 + 5))), t) := tm_word (w := 5) hn hM.1 (by decide) (by decide) (by decide +kernel)
  have w6 : f170 n 9 t = some (zone (decide (tkKind U len q = nI (128 + 6))), t) := tm_word (w := 6) hn hM.1 (by decide) (by decide) (by decide +kernel)
  have w7 : f170 n 10 t = some (zone (decide (tkKind U len q = nI (128 + 7))), t) := tm_word (w := 7) hn hM.1 (by decide) (by decide) (by decide +kernel)
  have w8 : f170 n 11 t = some (zone (decide (tkKind U len q = nI (128 + 8))), t) := tm_word (w := 8) hn hM.1 (by decide) (by decide) (by decide +kernel)
  have hne : ∀ c k, c < 9 → k < 9 → k ≠ c → tkKind U len q = nI (128 + c) → ¬ tkKind U len q = nI (128 + k) := fun c k hc hk hne e e2 => hne (by have := (nIe (u := 128 + c) (k := 128 + k) (by omega) (by omega)).mp (e.symm.trans e2); omega)
  constructor
  · intro c hc e
    unfold f169
    have hcs : c = 0 ∨ c = 1 ∨ c = 2 ∨ c = 3 ∨ c = 4 ∨ c = 5 ∨ c = 6 ∨ c = 7 ∨ c = 8 := by omega
    have z : ∀ k, k < 9 → k ≠ c → zone (decide (tkKind U len q = nI (128 + k))) = 0 := fun k hk hkc => zone_0 (hne c k hc hk hkc e)
    rcases hcs with rfl | rfl | rfl | rfl | rfl | rfl | rfl | rfl | rfl
    · rw [w0, yb1_s, zone_1 e, if_neg n10]; rfl
    · rw [w0, yb1_s, z 0 (by omega) (by omega), if_pos rfl, w1, yb1_s, zone_1 e, if_neg n10]; rfl
    · rw [w0, yb1_s, z 0 (by omega) (by omega), if_pos rfl, w1, yb1_s, z 1 (by omega) (by omega), if_pos rfl, w2, yb1_s, zone_1 e, if_neg n10]; rfl
    · rw [w0, yb1_s, z 0 (by omega) (by omega), if_pos rfl, w1, yb1_s, z 1 (by omega) (by omega), if_pos rfl, w2, yb1_s, z 2 (by omega) (by omega), if_pos rfl, w3, yb1_s, zone_1 e, if_neg n10]; rfl
    · rw [w0, yb1_s, z 0 (by omega) (by omega), if_pos rfl, w1, yb1_s, z 1 (by omega) (by omega), if_pos rfl, w2, yb1_s, z 2 (by omega) (by omega), if_pos rfl, w3, yb1_s, z 3 (by omega) (by omega), if_pos rfl, w4, yb1_s, zone_1 e, if_neg n10]; rfl
    · rw [w0, yb1_s, z 0 (by omega) (by omega), if_pos rfl, w1, yb1_s, z 1 (by omega) (by omega), if_pos rfl, w2, yb1_s, z 2 (by omega) (by omega), if_pos rfl, w3, yb1_s, z 3 (by omega) (by omega), if_pos rfl, w4, yb1_s, z 4 (by omega) (by omega), if_pos rfl, w5, yb1_s, zone_1 e, if_neg n10]; rfl
    · rw [w0, yb1_s, z 0 (by omega) (by omega), if_pos rfl, w1, yb1_s, z 1 (by omega) (by omega), if_pos rfl, w2, yb1_s, z 2 (by omega) (by omega), if_pos rfl, w3, yb1_s, z 3 (by omega) (by omega), if_pos rfl, w4, yb1_s, z 4 (by omega) (by omega), if_pos rfl, w5, yb1_s, z 5 (by omega) (by omega), if_pos rfl, w6, yb1_s, zone_1 e, if_neg n10]; rfl
    · rw [w0, yb1_s, z 0 (by omega) (by omega), if_pos rfl, w1, yb1_s, z 1 (by omega) (by omega), if_pos rfl, w2, yb1_s, z 2 (by omega) (by omega), if_pos rfl, w3, yb1_s, z 3 (by omega) (by omega), if_pos rfl, w4, yb1_s, z 4 (by omega) (by omega), if_pos rfl, w5, yb1_s, z 5 (by omega) (by omega), if_pos rfl, w6, yb1_s, z 6 (by omega) (by omega), if_pos rfl, w7, yb1_s, zone_1 e, if_neg n10]; rfl
    · rw [w0, yb1_s, z 0 (by omega) (by omega), if_pos rfl, w1, yb1_s, z 1 (by omega) (by omega), if_pos rfl, w2, yb1_s, z 2 (by omega) (by omega), if_pos rfl, w3, yb1_s, z 3 (by omega) (by omega), if_pos rfl, w4, yb1_s, z 4 (by omega) (by omega), if_pos rfl, w5, yb1_s, z 5 (by omega) (by omega), if_pos rfl, w6, yb1_s, z 6 (by omega) (by omega), if_pos rfl, w7, yb1_s, z 7 (by omega) (by omega), if_pos rfl, w8, yb1_s, zone_1 e, if_neg n10]; rfl
  · intro hno
    unfold f169
    have z : ∀ k, k < 9 → zone (decide (tkKind U len q = nI (128 + k))) = 0 := fun k hk => zone_0 (hno k hk)
    rw [w0, yb1_s, z 0 (by omega), if_pos rfl, w1, yb1_s, z 1 (by omega), if_pos rfl, w2, yb1_s, z 2 (by omega), if_pos rfl, w3, yb1_s, z 3 (by omega), if_pos rfl, w4, yb1_s, z 4 (by omega), if_pos rfl, w5, yb1_s, z 5 (by omega), if_pos rfl, w6, yb1_s, z 6 (by omega), if_pos rfl, w7, yb1_s, z 7 (by omega), if_pos rfl, w8, yb1_s, z 8 (by omega), if_pos rfl]
/-- the start values of the new one -/
theorem DV_add (h : DV x y nb cnt s t) (hc : c < 9) (h2 : ∀ k, cnt2 k = if k = c then cnt c + 1 else cnt k) (hc8 : c ≠ 7 ∧ c ≠ 8) (e12 : ∀ k, k < cnt 0 → s2.1 (x + 12) k = s.1 (x + 12) k ∧ t2.1 (y + 5) k = t.1 (y + 5) k) (e13 : ∀ k, k < 4 → (¬ (c = 2 ∧ k = cnt 2) → s2.1 (x + 13) k = s.1 (x + 13) k) ∧ (k < cnt 2 → t2.1 (y + 6) k = t.1 (y + 6) k)) (eo : ∀ a, x + 14 ≤ a → a ≤ x + 18 → s2.1 a = s.1 a) (et : ∀ a, y + 7 ≤ a → a ≤ y + 11 → t2.1 a = t.1 a) (n0 : c = 0 → s2.1 (x + 12) (cnt 0) = t2.1 (y + 5) (cnt 0)) (n2 : c = 2 → ∃ v, v ≤ 9 ∧ s2.1 (x + 13) (cnt 2) = nI v ∧ t2.1 (y + 6) (cnt 2) = nI v) (h24 : c = 2 → cnt 2 < 4) : DV x y nb cnt2 s2 t2 := by
  obtain ⟨a1, a2, a3, a4⟩ := h
  refine ⟨fun k hk => ?_, fun k hk => ?_, fun k hk => ?_, fun k hk => ?_⟩
  · rw [h2] at hk
    by_cases e : k < cnt 0
    · rw [(e12 k e).1, (e12 k e).2]; exact a1 k e
    · split at hk
      · rename_i h0
        have : k = cnt 0 := by rw [← h0] at hk; omega
        rw [this]; exact n0 h0.symm
      · omega
  · by_cases e : c = 2 ∧ k = cnt 2
    · obtain ⟨v, v1, v2, v3⟩ := n2 e.1
      rw [e.2]
      exact ⟨⟨v, v1, v2⟩, fun _ => v2.trans v3.symm⟩
    · rw [(e13 k hk).1 e]
      refine ⟨(a2 k hk).1, fun h3 => ?_⟩
      have hk2 : k < cnt 2 := by
        rw [h2] at h3
        split at h3
        · rename_i h0
          have : k ≠ cnt 2 := fun e2 => e ⟨h0.symm, e2⟩
          rw [← h0] at h3
          omega
        · exact h3
      rw [(e13 k hk).2 hk2]; exact (a2 k hk).2 hk2
  · rw [h2, if_neg (fun e => hc8.2 e.symm)] at hk
    rw [eo (x + 14) (by omega) (by omega), eo (x + 15) (by omega) (by omega), eo (x + 16) (by omega) (by omega), et (y + 8) (by omega) (by omega), et (y + 9) (by omega) (by omega), et (y + 7) (by omega) (by omega)]
    exact a3 k hk
  · rw [h2, if_neg (fun e => hc8.1 e.symm)] at hk
    rw [eo (x + 17) (by omega) (by omega), eo (x + 18) (by omega) (by omega), et (y + 10) (by omega) (by omega), et (y + 11) (by omega) (by omega)]
    exact a4 k hk
end ZRD
