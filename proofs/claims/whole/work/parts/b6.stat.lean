/-! statements, both readers: the relation -/
section ZPU
/-- t2 is t but for the token, the fault, the nesting, nodes, codes, uses and expressions -/
def frM2 (y : Nat) (t t2 : zσ) : Prop := (∀ a, a ≠ 1132 → a ≠ y → ¬ (y + 25 ≤ a ∧ a ≤ y + 35) → t2.1 a = t.1 a) ∧ (∀ a, a ≠ 1132 → a ≠ y + 29 → t2.2.1 a = t.2.1 a) ∧ t2.2.2 = t.2.2 ∧ (∀ k, k ≠ 3 → k ≠ 4 → k ≠ 5 → k ≠ 7 → k ≠ 8 → k ≠ 9 → k ≠ 10 → k ≠ 14 → t2.1 1132 k = t.1 1132 k) ∧ (∀ k, k ≠ 27 → k ≠ 28 → k ≠ 31 → k ≠ 34 → t2.1 y k = t.1 y k)
theorem frM2_rf {y : Nat} {t : zσ} : frM2 y t t := ⟨fun _ _ _ _ => rfl, fun _ _ _ => rfl, rfl, fun _ _ _ _ _ _ _ _ _ => rfl, fun _ _ _ _ _ => rfl⟩
theorem frM2_tr {y : Nat} {t t2 t3 : zσ} (h1 : frM2 y t t2) (h2 : frM2 y t2 t3) : frM2 y t t3 := ⟨fun a b c d => (h2.1 a b c d).trans (h1.1 a b c d), fun a b c => (h2.2.1 a b c).trans (h1.2.1 a b c), h2.2.2.1.trans h1.2.2.1, fun k a b c d e f g h => (h2.2.2.2.1 k a b c d e f g h).trans (h1.2.2.2.1 k a b c d e f g h), fun k a b c d => (h2.2.2.2.2 k a b c d).trans (h1.2.2.2.2 k a b c d)⟩
theorem frM2_M {y : Nat} {t t2 : zσ} (h : frM y t t2) : frM2 y t t2 := ⟨fun a b c d => h.1 a b c (by omega), h.2.1, h.2.2.1, h.2.2.2.1, fun k a _ c d => h.2.2.2.2 k a c d⟩
def SC (x y K cd us us2 : Nat) (s t s2 t2 : zσ) : Prop := frE x s s2 ∧ frM2 y t t2 ∧ (K = 1 → ∀ p, p < cd → s2.1 (x + 27) p = s.1 (x + 27) p ∧ s2.1 (x + 28) p = s.1 (x + 28) p) ∧ (∀ u, u < us → t2.1 (y + 35) u = t.1 (y + 35) u) ∧ (∀ u, us ≤ u → u < us2 → t2.1 (y + 35) u = -1)
theorem SC_E {x y K cd us us2 : Nat} {s t s2 t2 : zσ} (h : EC x y K cd us us2 s t s2 t2) : SC x y K cd us us2 s t s2 t2 := ⟨h.1, frM2_M h.2.1, h.2.2⟩
theorem SC_rf {x y K cd us : Nat} {s t : zσ} : SC x y K cd us us s t s t := SC_E EC_rf
theorem SC_tr {x y K cd us us2 cd2 us3 : Nat} {s t s2 t2 s3 t3 : zσ} (h1 : SC x y K cd us us2 s t s2 t2) (h2 : SC x y K cd2 us2 us3 s2 t2 s3 t3) (hc : cd ≤ cd2) (hu : us ≤ us2) : SC x y K cd us us3 s t s3 t3 := by
  obtain ⟨a1, a2, a3, a4, a5⟩ := h1
  obtain ⟨b1, b2, b3, b4, b5⟩ := h2
  refine ⟨frE_tr a1 b1, frM2_tr a2 b2, fun hK p hp => ⟨((b3 hK p (by omega)).1).trans (a3 hK p hp).1, ((b3 hK p (by omega)).2).trans (a3 hK p hp).2⟩, fun u hu2 => (b4 u (by omega)).trans (a4 u hu2), fun u hu2 hu3 => ?_⟩
  by_cases h : u < us2
  · rw [b4 u h]; exact a5 u hu2 h
  · exact b5 u (by omega) hu3
/-- a use with operands: as many as its proc has parameters -/
def fit (y : Nat) (tz t : zσ) (u : Nat) : Prop := t.1 (y + 35) u = -1 ∨ ∃ p, p < 6 ∧ (zso tz y u).2 = nI p ∧ t.1 (y + 35) u = tz.1 (y + 11) p
def MI (K y us : Nat) (tz s t : zσ) : Prop := (K = 0 → s.1 1004 12 = -1) ∧ (K = 1 → (s.1 1004 12 = -1 ∧ ∀ u, u < us → fit y tz t u) ∨ (¬ s.1 1004 12 = -1 ∧ ∃ u, u < us ∧ (s.1 1004 12 = tz.1 (y + 30) u ∧ ∃ p, p < 6 ∧ (zso tz y u).2 = nI p) ∧ ¬ fit y tz t u ∧ ∀ v, v < u → fit y tz t v))
def SR (U : Nat → Nat) (len x y : Nat) (s0 t0 : zσ) (K np : Nat) (tz : zσ) (G : Nat → Nat → Nat) (bl ub q dp nd cd us es na nb : Nat) (s t : zσ) : Prop := ER U len x y s0 t0 K np tz G bl ub q dp nd cd us s t ∧ (s.1 (x + 19) 9 = nI na ∧ t.1 y 16 = nI na ∧ na ≤ 200) ∧ (s.1 (x + 29) 6 = nI nb ∧ t.1 y 13 = nI nb ∧ 6 * nb ≤ q + dp) ∧ (t.1 y 28 = nI es ∧ es ≤ nd) ∧ ((s.1 1004 8 = 0 ∧ t.1 1132 15 = -1) ∨ (s.1 1004 8 = 1 ∧ ∃ p, p < 6 ∧ t.1 1132 15 = nI p)) ∧ MI K y us tz s t ∧ (K = 1 → ∀ p, p < G 6 7 → s.1 (x + 18) p = tz.1 (y + 11) p)
/-- the fields of statement r -/
def SF (x y r : Nat) (c m L E : Nat → Int32) (s t : zσ) : Prop := (∀ j, j < 7 → s.1 (x + 20 + j) r = c j) ∧ (∀ j, j < 10 → j ≠ 6 → j ≠ 7 → t.1 (y + 15 + j) r = m j) ∧ (∀ k, k < 4 → t.1 (y + 21) (4 * r + k) = L k ∧ t.1 (y + 22) (4 * r + k) = E k)
def uf (f : Nat → Int32) (j : Nat) (v : Int32) : Nat → Int32 := fun i => if i = j then v else f i
variable {U : Nat → Nat} {len x y n K np bl ub q dp nd cd us es na nb q2 dp2 nd2 cd2 us2 r : Nat} {s0 t0 tz s t s2 t2 : zσ} {G : Nat → Nat → Nat} {c m L E : Nat → Int32}
theorem HQ_ub {ub2 : Nat} (h : HQ n U len x y s0 t0 K tz G ub) (h2 : ub2 ≤ 900) : HQ n U len x y s0 t0 K tz G ub2 := ⟨h.1, h.2.1, h2, h.2.2.2⟩
theorem ER_ub {ub2 : Nat} (h : ER U len x y s0 t0 K np tz G bl ub q dp nd cd us s t) (h2 : ub ≤ ub2) : ER U len x y s0 t0 K np tz G bl ub2 q dp nd cd us s t := by
  obtain ⟨a1, a2, a3, a4, a5, a6, ⟨a7, a8⟩, a9⟩ := h
  exact ⟨a1, a2, a3, a4, a5, a6, ⟨a7, by omega⟩, a9⟩
theorem fit_fr (h : ∀ u, u < us → t2.1 (y + 35) u = t.1 (y + 35) u) {u : Nat} (hu : u < us) : fit y tz t2 u ↔ fit y tz t u := by
  unfold fit
  rw [h u hu]
theorem MI_fr (h : MI K y us tz s t) (e12 : s2.1 1004 12 = s.1 1004 12) (h1 : ∀ u, u < us → t2.1 (y + 35) u = t.1 (y + 35) u) (h2 : ∀ u, us ≤ u → u < us2 → t2.1 (y + 35) u = -1) (hu : us ≤ us2) : MI K y us2 tz s2 t2 := by
  unfold MI
  rw [e12]
  refine ⟨h.1, fun hK => ?_⟩
  rcases h.2 hK with ⟨a1, a2⟩ | ⟨a1, u, a2, a3, a4, a5⟩
  · refine Or.inl ⟨a1, fun u hu2 => ?_⟩
    by_cases h3 : u < us
    · exact (fit_fr h1 h3).mpr (a2 u h3)
    · exact Or.inl (h2 u (by omega) hu2)
  · exact Or.inr ⟨a1, u, by omega, a3, fun h => a4 ((fit_fr h1 a2).mp h), fun v hv => (fit_fr h1 (by omega)).mpr (a5 v hv)⟩
theorem SR_C {ub2 : Nat} (hS : S0 U len x y s0 t0) (h : SR U len x y s0 t0 K np tz G bl ub q dp nd cd us es na nb s t) (o : SC x y K cd us us2 s t s2 t2) (hE : ER U len x y s0 t0 K np tz G bl ub2 q2 dp2 nd2 cd2 us2 s2 t2) (e28 : t2.1 y 28 = t.1 y 28) (hq : q + dp ≤ q2 + dp2) (hn : nd ≤ nd2) (hu : us ≤ us2) : SR U len x y s0 t0 K np tz G bl ub2 q2 dp2 nd2 cd2 us2 es na nb s2 t2 := by
  have hx := hS.1
  have hy := hS.2.1
  obtain ⟨-, ⟨a1, a2, a3⟩, ⟨b1, b2, b3⟩, ⟨c1, c2⟩, d1, e1, f1⟩ := h
  obtain ⟨o1, o2, -, o4, o5⟩ := o
  refine ⟨hE, ⟨?_, ?_, a3⟩, ⟨?_, ?_, by omega⟩, ⟨e28.trans c1, by omega⟩, ?_, MI_fr e1 (o1.2.2.2.1 12 (by decide) (by decide) (by decide)) o4 o5 hu, fun hK p hp => ?_⟩
  · rw [o1.2.2.2.2 9 (by decide) (by decide)]; exact a1
  · rw [o2.2.2.2.2 16 (by decide) (by decide) (by decide) (by decide)]; exact a2
  · rw [o1.1 (x + 29) (by omega) (by omega) (by omega) (by omega) (by omega)]; exact b1
  · rw [o2.2.2.2.2 13 (by decide) (by decide) (by decide) (by decide)]; exact b2
  · rw [o1.2.2.2.1 8 (by decide) (by decide) (by decide), o2.2.2.2.1 15 (by decide) (by decide) (by decide) (by decide) (by decide) (by decide) (by decide) (by decide)]; exact d1
  · rw [o1.1 (x + 18) (by omega) (by omega) (by omega) (by omega) (by omega)]; exact f1 hK p hp
theorem EC_28 (h : EC x y K cd us us2 s t s2 t2) : t2.1 y 28 = t.1 y 28 := h.2.1.2.2.2.2 28 (by decide) (by decide) (by decide)
theorem SF_C (hS : S0 U len x y s0 t0) (h : SF x y r c m L E s t) (o : SC x y K cd us us2 s t s2 t2) : SF x y r c m L E s2 t2 := by
  have hx := hS.1
  have hy := hS.2.1
  obtain ⟨o1, o2, -⟩ := o
  refine ⟨fun j hj => ?_, fun j hj h6 h7 => ?_, fun k hk => ?_⟩
  · rw [o1.1 (x + 20 + j) (by omega) (by omega) (by omega) (by omega) (by omega)]; exact h.1 j hj
  · rw [o2.1 (y + 15 + j) (by omega) (by omega) (by omega)]; exact h.2.1 j hj h6 h7
  · rw [o2.1 (y + 21) (by omega) (by omega) (by omega), o2.1 (y + 22) (by omega) (by omega) (by omega)]; exact h.2.2 k hk
/-! writes of fields -/
theorem SF_c {j : Nat} {v : Int32} (hj : j < 7) (h : SF x y r c m L E s t) : SF x y r (uf c j v) m L E (sI s (x + 20 + j) r v) t := by
  refine ⟨fun i hi => ?_, h.2.1, h.2.2⟩
  rw [gI]
  unfold uf
  by_cases e : i = j
  · rw [if_pos ⟨by omega, rfl⟩, if_pos e]
  · rw [if_neg (fun h => e (by omega)), if_neg e]; exact h.1 i hi
theorem SF_m {j : Nat} {v : Int32} (hj : j < 10) (h6 : j ≠ 6) (h7 : j ≠ 7) (h : SF x y r c m L E s t) : SF x y r c (uf m j v) L E s (sI t (y + 15 + j) r v) := by
  refine ⟨h.1, fun i hi i6 i7 => ?_, fun k hk => ?_⟩
  · rw [gI]
    unfold uf
    by_cases e : i = j
    · rw [if_pos ⟨by omega, rfl⟩, if_pos e]
    · rw [if_neg (fun h => e (by omega)), if_neg e]; exact h.2.1 i hi i6 i7
  · rw [hIo (by omega), hIo (by omega)]; exact h.2.2 k hk
theorem SF_L {j : Nat} {v : Int32} (hj : j < 4) (h : SF x y r c m L E s t) : SF x y r c m (uf L j v) E s (sI t (y + 21) (4 * r + j) v) := by
  refine ⟨h.1, fun i hi i6 i7 => ?_, fun k hk => ⟨?_, ?_⟩⟩
  · rw [hIo (by omega)]; exact h.2.1 i hi i6 i7
  · rw [gI]
    unfold uf
    by_cases e : k = j
    · rw [if_pos ⟨rfl, by omega⟩, if_pos e]
    · rw [if_neg (fun h => e (by omega)), if_neg e]; exact (h.2.2 k hk).1
  · rw [hIo (by omega)]; exact (h.2.2 k hk).2
theorem SF_E {j : Nat} {v : Int32} (hj : j < 4) (h : SF x y r c m L E s t) : SF x y r c m L (uf E j v) s (sI t (y + 22) (4 * r + j) v) := by
  refine ⟨h.1, fun i hi i6 i7 => ?_, fun k hk => ⟨?_, ?_⟩⟩
  · rw [hIo (by omega)]; exact h.2.1 i hi i6 i7
  · rw [hIo (by omega)]; exact (h.2.2 k hk).1
  · rw [gI]
    unfold uf
    by_cases e : k = j
    · rw [if_pos ⟨rfl, by omega⟩, if_pos e]
    · rw [if_neg (fun h => e (by omega)), if_neg e]; exact (h.2.2 k hk).2
theorem Lt_I {a k : Nat} {v : Int32} (h1 : ¬ (a = 1132 ∧ k = 9)) (h2 : ¬ (a = y ∧ (k = 34 ∨ k = 31 ∨ k = 28 ∨ k = 16 ∨ k = 13))) (h3 : a ≠ y + 25 ∧ a ≠ y + 26 ∧ a ≠ y + 27 ∧ a ≠ y + 28 ∧ a ≠ y + 30 ∧ a ≠ y + 31 ∧ a ≠ y + 32) (h4 : ¬ (a = y + 11 ∧ k < np)) (h : Lt np y t tz) : Lt np y (sI t a k v) tz := by
  obtain ⟨e1, e2, e3, e4, e5, e6, e7⟩ := h3
  have g : ∀ b j, ¬ (b = a ∧ j = k) → (sI t a k v).1 b j = t.1 b j := fun b j q => hIx q
  unfold Lt
  rw [hIo (b := y + 25) (Ne.symm e1), hIo (b := y + 26) (Ne.symm e2), hIo (b := y + 27) (Ne.symm e3), hIo (b := y + 28) (Ne.symm e4), hIo (b := y + 30) (Ne.symm e5), hIo (b := y + 31) (Ne.symm e6), hIo (b := y + 32) (Ne.symm e7), g 1132 9 (by omega), g y 34 (by omega), g y 31 (by omega), g y 28 (by omega), g y 16 (by omega), g y 13 (by omega)]
  obtain ⟨a1, a2, a3, a4, a5, a6, a7⟩ := h
  exact ⟨a1, a2, a3, a4, a5, a6, fun p hp => ⟨by rw [← (a7 p hp).1, g (y + 11) p (by omega)], (a7 p hp).2⟩⟩
theorem ER_wC {a k : Nat} {v : Int32} (hS : S0 U len x y s0 t0) (ha : x + 20 ≤ a ∧ a ≤ x + 26 ∨ x + 30 ≤ a ∧ a ≤ x + 35) (h : ER U len x y s0 t0 K np tz G bl ub q dp nd cd us s t) : ER U len x y s0 t0 K np tz G bl ub q dp nd cd us (sI s a k v) t := by
  have hx := hS.1
  obtain ⟨⟨a1, a1'⟩, a2, a3, ⟨d1, d2, d3⟩, ⟨n1, n2, n3⟩, ⟨k1, k2, k3⟩, a7, a8⟩ := h
  refine ⟨⟨BC_I hx (by omega) (by omega) a1, CG_I (by omega) (by omega) (by omega) a1'⟩, a2, by rw [hIo (by omega)]; exact a3, ⟨by rw [hIo (by omega)]; exact d1, d2, d3⟩, ⟨by rw [hIo (by omega)]; exact n1, n2, n3⟩, ⟨by rw [hIo (by omega)]; exact k1, k2, k3⟩, a7, fun hK => ⟨(a8 hK).1, (a8 hK).2.1, ?_, (a8 hK).2.2.2.1, ?_⟩⟩
  · rw [hIo (by omega)]; exact (a8 hK).2.2.1
  · rw [hIo (by omega)]; exact (a8 hK).2.2.2.2
theorem ER_wM {a k : Nat} {v : Int32} (hS : S0 U len x y s0 t0) (ha : y + 13 ≤ a ∧ a ≤ y + 24) (h : ER U len x y s0 t0 K np tz G bl ub q dp nd cd us s t) : ER U len x y s0 t0 K np tz G bl ub q dp nd cd us s (sI t a k v) := by
  have hy := hS.2.1
  obtain ⟨a1, ⟨a2, a2'⟩, a3, ⟨d1, d2, d3⟩, ⟨n1, n2, n3⟩, ⟨k1, k2, k3⟩, ⟨u1, u2⟩, a8⟩ := h
  refine ⟨a1, ⟨⟨GFm_I (by omega) hy a2.1, ?_⟩, MG_I (by omega) (by omega) a2'⟩, a3, ⟨d1, by rw [hIo (by omega)]; exact d2, d3⟩, ⟨n1, by rw [hIo (by omega)]; exact n2, n3⟩, ⟨k1, by rw [hIo (by omega)]; exact k2, k3⟩, ⟨by rw [hIo (by omega)]; exact u1, u2⟩, fun hK => ⟨Lt_I (by omega) (by omega) (by omega) (by omega) (a8 hK).1, (a8 hK).2.1, (a8 hK).2.2.1, (a8 hK).2.2.2.1, ?_⟩⟩
  · rw [hIo (by omega)]; exact a2.2
  · rw [hIo (by omega)]; exact (a8 hK).2.2.2.2
theorem SR_wC {a k : Nat} {v : Int32} (hS : S0 U len x y s0 t0) (ha : x + 20 ≤ a ∧ a ≤ x + 26 ∨ x + 30 ≤ a ∧ a ≤ x + 35) (h : SR U len x y s0 t0 K np tz G bl ub q dp nd cd us es na nb s t) : SR U len x y s0 t0 K np tz G bl ub q dp nd cd us es na nb (sI s a k v) t := by
  have hx := hS.1
  obtain ⟨h1, ⟨a1, a2, a3⟩, ⟨b1, b2, b3⟩, c1, d1, e1, f1⟩ := h
  refine ⟨ER_wC hS ha h1, ⟨by rw [hIo (by omega)]; exact a1, a2, a3⟩, ⟨by rw [hIo (by omega)]; exact b1, b2, b3⟩, c1, by rw [hIo (by omega)]; exact d1, MI_fr e1 (by rw [hIo (by omega)]) (fun _ _ => rfl) (fun u a b => by omega) (Nat.le_refl _), fun hK p hp => by rw [hIo (by omega)]; exact f1 hK p hp⟩
theorem SR_wM {a k : Nat} {v : Int32} (hS : S0 U len x y s0 t0) (ha : y + 13 ≤ a ∧ a ≤ y + 24) (h : SR U len x y s0 t0 K np tz G bl ub q dp nd cd us es na nb s t) : SR U len x y s0 t0 K np tz G bl ub q dp nd cd us es na nb s (sI t a k v) := by
  have hy := hS.2.1
  obtain ⟨h1, ⟨a1, a2, a3⟩, ⟨b1, b2, b3⟩, ⟨c1, c2⟩, d1, e1, f1⟩ := h
  exact ⟨ER_wM hS ha h1, ⟨a1, by rw [hIo (by omega)]; exact a2, a3⟩, ⟨b1, by rw [hIo (by omega)]; exact b2, b3⟩, ⟨by rw [hIo (by omega)]; exact c1, c2⟩, by rw [hIo (by omega)]; exact d1, MI_fr e1 rfl (fun _ _ => by rw [hIo (by omega)]) (fun u a b => by omega) (Nat.le_refl _), f1⟩
theorem SR_ub {ub2 : Nat} (h : SR U len x y s0 t0 K np tz G bl ub q dp nd cd us es na nb s t) (h2 : ub ≤ ub2) : SR U len x y s0 t0 K np tz G bl ub2 q dp nd cd us es na nb s t := ⟨ER_ub h.1 h2, h.2⟩
end ZPU
