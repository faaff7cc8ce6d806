/-! the end of the second pass: the data of the whole text -/
section ZRS
variable {x y na nb cd : Nat} {tz s t : zσ} {G : Nat → Nat → Nat} {cnt : Nat → Nat}
theorem hyb_M : hyb y tz tz = tzMp tz y := by
  refine Prod.ext (funext fun a => funext fun k => ?_) rfl
  by_cases h : y + 13 ≤ a ∧ a ≤ y + 24
  · rw [hyb_t h, tzM_1 (by omega)]
  · rw [hyb_z h]
theorem Fut_rf {a0 a1 b0 b1 c1 er eb : Nat} : Fut x y a0 a1 b0 b1 c1 er eb G s t G s t := Fut_e (fun _ _ _ => rfl) (fun _ _ _ => rfl)
theorem GD_end (h : GD 1 x y tz G cnt na nb cd s tz) (hm : s.1 1004 12 = -1) : ∃ G', (∀ k, G' 0 k = G 0 k ∧ G' 6 k = G 6 k ∧ G' 12 k = G 12 k ∧ G' 13 k = G 13 k) ∧ (∀ b, b < nb → (G' 2 b = 0 → G' 3 b < cnt 8 ∧ s.1 (x + 16) (G' 3 b) = nI b) ∧ (G' 2 b = 1 → G' 3 b < cnt 7 ∧ s.1 (x + 17) (G' 3 b) = nI b)) ∧ (∀ k, k < cnt 8 → ∃ b, b < nb ∧ s.1 (x + 16) k = nI b ∧ G' 2 b = 0 ∧ G' 3 b = k) ∧ (∀ k, k < cnt 7 → ∃ b, b < nb ∧ s.1 (x + 17) k = nI b ∧ G' 2 b = 1 ∧ G' 3 b = k) ∧ (∀ r, r < na → dS0 G' x y r s (tzMp tz y) ∧ dN G' x y na r s (tzMp tz y)) ∧ (∀ b, b < nb → dB G' x y na nb b s (tzMp tz y)) := by
  obtain ⟨G', g1, g2, g3, g4, g5⟩ := h rfl hm
  obtain ⟨a1, a2⟩ := g5 G' s tz Fut_rf
  rw [hyb_M] at a1 a2
  exact ⟨G', g1, g2, g3, g4, fun r hr => ⟨(a1 r (Nat.zero_le _) hr).1, (a1 r (Nat.zero_le _) hr).2 (by omega)⟩, fun b hb => a2 b (Nat.zero_le _) hb⟩
end ZRS
