/-! the readers: what the reference's reader leaves for ever; rules for that -/
section ZPB
def bk {β : Type} (pm : β → zσ) (R : zσ → zσ → Prop) (p : Option β) (t : zσ) : Prop := ∀ b, p = some b → R t (pm b)
variable {β : Type} {pm : β → zσ} {R : zσ → zσ → Prop} {t : zσ}
theorem bk_none : bk pm R none t := fun _ h => by cases h
theorem bk_some {b : β} (h : R t (pm b)) : bk pm R (some b) t := fun c e => by cases e; exact h
theorem bk_ite {c : Prop} {i : Decidable c} {p q : Option β} (h1 : c → bk pm R p t) (h2 : ¬ c → bk pm R q t) : bk pm R (if c then p else q) t := by
  by_cases h : c
  · rw [if_pos h]; exact h1 h
  · rw [if_neg h]; exact h2 h
theorem bk_y0 {p : Option zσ} {k : zσ → Option β} (htr : ∀ a b c, R a b → R b c → R a c) (h1 : bk (fun u => u) R p t) (h2 : ∀ u, bk pm R (k u) u) : bk pm R (yb0 p k) t := by
  intro b e
  cases p with
  | none => cases e
  | some u => exact htr _ _ _ (h1 u rfl) (h2 u b e)
theorem bk_y1 {α : Type} {p : Option (α × zσ)} {k : α → zσ → Option β} (htr : ∀ a b c, R a b → R b c → R a c) (h1 : bk (fun u => u.2) R p t) (h2 : ∀ v u, bk pm R (k v u) u) : bk pm R (yb1 p k) t := by
  intro b e
  cases p with
  | none => cases e
  | some u => exact htr _ _ _ (h1 u rfl) (h2 u.1 u.2 b e)
theorem bk_zS {u : zσ} {k : zσ → Option β} (htr : ∀ a b c, R a b → R b c → R a c) (h1 : R t u) (h2 : bk pm R (k u) u) : bk pm R (zlet u k) t := fun b e => htr _ _ _ h1 (h2 b e)
theorem bk_zV {α : Type} {v : α} {k : α → Option β} (h2 : bk pm R (k v) t) : bk pm R (zlet v k) t := h2
theorem bk_rd {ci : Nat} {o : Option Nat} {k : Nat → Option β} (h : ∀ a, o = some a → bk pm R (k a) t) : bk pm R (zrd ci o k) t := by
  intro b e
  cases o with
  | none => cases e
  | some a =>
    have e2 : (if zck ci a = true then k a else none) = some b := e
    by_cases hc : zck ci a = true
    · rw [if_pos hc] at e2; exact h a rfl b e2
    · rw [if_neg hc] at e2; cases e2
end ZPB
/-- what stands in the draft t stands there in tz, which is behind it -/
def Lt (np y : Nat) (t tz : zσ) : Prop := t.1 1132 9 = 0 ∧
  (∃ us uz, t.1 y 34 = nI us ∧ tz.1 y 34 = nI uz ∧ us ≤ uz ∧ uz ≤ 1400 ∧ ∀ u, u < us → t.2.1 (y + 29) u = tz.2.1 (y + 29) u ∧ t.1 (y + 30) u = tz.1 (y + 30) u ∧ t.1 (y + 31) u = tz.1 (y + 31) u ∧ t.1 (y + 32) u = tz.1 (y + 32) u) ∧
  (∃ cd cz, t.1 y 31 = nI cd ∧ tz.1 y 31 = nI cz ∧ cd ≤ cz ∧ cz ≤ 900 ∧ ∀ p, p < cd → t.1 (y + 27) p = tz.1 (y + 27) p ∧ t.1 (y + 28) p = tz.1 (y + 28) p) ∧
  (∃ es ez, t.1 y 28 = nI es ∧ tz.1 y 28 = nI ez ∧ es ≤ ez ∧ ez ≤ 401 ∧ ∀ e, e < es → t.1 (y + 25) e = tz.1 (y + 25) e ∧ t.1 (y + 26) e = tz.1 (y + 26) e) ∧
  (∃ na nz, t.1 y 16 = nI na ∧ tz.1 y 16 = nI nz ∧ na ≤ nz ∧ nz ≤ 200) ∧
  (∃ nb nz, t.1 y 13 = nI nb ∧ tz.1 y 13 = nI nz ∧ nb ≤ nz ∧ nz ≤ 2000) ∧
  (∀ p, p < np → t.1 (y + 11) p = tz.1 (y + 11) p ∧ ∀ k, k < 3 → t.2.1 (y + 12) (3 * p + k) = tz.2.1 (y + 12) (3 * p + k))
def LR (np y : Nat) (tz t t2 : zσ) : Prop := t.2.2 1132 12 = some y → t2.2.2 1132 12 = some y ∧ (Lt np y t2 tz → Lt np y t tz)
section ZPC
variable {np y n : Nat} {tz t : zσ}
theorem LR_rf {t : zσ} : LR np y tz t t := fun h => ⟨h, fun h2 => h2⟩
theorem LR_tr : ∀ a b c : zσ, LR np y tz a b → LR np y tz b c → LR np y tz a c := fun _ _ _ h1 h2 h => ⟨(h2 (h1 h).1).1, fun h3 => (h1 h).2 ((h2 (h1 h).1).2 h3)⟩
theorem LR_I {a k : Nat} {v : Int32} {t : zσ} (h1 : ¬ (a = 1132 ∧ k = 9)) (h2 : ¬ (a = y ∧ (k = 34 ∨ k = 31 ∨ k = 28 ∨ k = 16 ∨ k = 13))) (h3 : a ≠ y + 25 ∧ a ≠ y + 26 ∧ a ≠ y + 27 ∧ a ≠ y + 28 ∧ a ≠ y + 30 ∧ a ≠ y + 31 ∧ a ≠ y + 32) (h4 : ¬ (a = y + 11 ∧ k < np)) : LR np y tz t (sI t a k v) := by
  refine fun h => ⟨h, ?_⟩
  obtain ⟨e1, e2, e3, e4, e5, e6, e7⟩ := h3
  have g : ∀ b j, ¬ (b = a ∧ j = k) → (sI t a k v).1 b j = t.1 b j := fun b j q => hIx q
  unfold Lt
  rw [hIo (b := y + 25) (Ne.symm e1), hIo (b := y + 26) (Ne.symm e2), hIo (b := y + 27) (Ne.symm e3), hIo (b := y + 28) (Ne.symm e4), hIo (b := y + 30) (Ne.symm e5), hIo (b := y + 31) (Ne.symm e6), hIo (b := y + 32) (Ne.symm e7), g 1132 9 (by omega), g y 34 (by omega), g y 31 (by omega), g y 28 (by omega), g y 16 (by omega), g y 13 (by omega)]
  rintro ⟨a1, a2, a3, a4, a5, a6, a7⟩
  exact ⟨a1, a2, a3, a4, a5, a6, fun p hp => ⟨by rw [← (a7 p hp).1, g (y + 11) p (by omega)], (a7 p hp).2⟩⟩
theorem LR_J {a k : Nat} {v : Int64} {t : zσ} (h1 : a ≠ y + 29) (h2 : ¬ (a = y + 12 ∧ k < 3 * np)) : LR np y tz t (sJ t a k v) := by
  refine fun h => ⟨h, ?_⟩
  have g : ∀ b j, ¬ (b = a ∧ j = k) → (sJ t a k v).2.1 b j = t.2.1 b j := fun b j q => by rw [gJ, if_neg q]
  rintro ⟨a1, a2, a3, a4, a5, a6, a7⟩
  refine ⟨a1, ?_, a3, a4, a5, a6, fun p hp => ⟨(a7 p hp).1, fun k2 hk2 => by rw [← (a7 p hp).2 k2 hk2, g (y + 12) (3 * p + k2) (by omega)]⟩⟩
  obtain ⟨us, uz, b1, b2, b3, b4, b5⟩ := a2
  exact ⟨us, uz, b1, b2, b3, b4, fun u hu => ⟨by rw [← (b5 u hu).1, g (y + 29) u (by omega)], (b5 u hu).2⟩⟩
/-- what only looks -/
def pu {β : Type} (g : zσ → Option (β × zσ)) : Prop := ∀ t v t2, g t = some (v, t2) → t2 = t
theorem bk_pu {β : Type} {g : zσ → Option (β × zσ)} (h : pu g) (t : zσ) : bk (fun u => u.2) (LR np y tz) (g t) t := fun b e => by
  have : b.2 = t := h t b.1 b.2 e
  show LR np y tz t b.2
  rw [this]; exact LR_rf
theorem bk_rdL {β : Type} {pm : β → zσ} {k : Nat → Option β} {t : zσ} (h : bk pm (LR np y tz) (k y) t) : bk pm (LR np y tz) (zrd 12 (t.2.2 1132 12) k) t := by
  intro b e hp
  rw [hp] at e
  have e2 : (if zck 12 y = true then k y else none) = some b := e
  by_cases hc : zck 12 y = true
  · rw [if_pos hc] at e2; exact h b e2 hp
  · rw [if_neg hc] at e2; cases e2
theorem pu_167 : pu (f167 n) := by
  intro t v t2 e
  unfold f167 at e
  split at e <;> (cases e; rfl)
theorem pu_171 {k : Nat} (hn : 5000 ≤ n) (hk : k < 51) : pu (f171 n k) := by
  intro t v t2 e
  rw [of_ok hk hn] at e
  cases e; rfl
theorem pu_170 {k : Nat} (hn : 5000 ≤ n) (hk : k < 51) : pu (f170 n k) := by
  intro t v t2 e
  unfold f170 at e
  rw [of_ok hk hn, yb1_s] at e
  split at e
  · split at e <;> (cases e; rfl)
  · cases e; rfl
theorem pu_176 {k : Int64} (hn : 5000 ≤ n) : pu (f176 n k) := by
  intro t v t2 e
  by_cases h : zres k
  · rw [(res_ok hn t).1 h] at e; cases e; rfl
  · rw [(res_ok hn t).2 h] at e; cases e; rfl
theorem pu_175 (hn : 5000 ≤ n) : pu (f175 n) := by
  intro t v t2 e
  unfold f175 at e
  split at e
  · by_cases h : zres (t.2.1 1132 6)
    · rw [(res_ok hn t).1 h] at e; cases e; rfl
    · rw [(res_ok hn t).2 h] at e; cases e; rfl
  · cases e; rfl
theorem pu_177 {c : Int32} : pu (f177 n c) := by
  intro t v t2 e
  unfold f177 at e
  split at e
  · split at e <;> (cases e; rfl)
  · cases e; rfl
theorem pu_y {α β : Type} {g : zσ → Option (α × zσ)} {k : α → zσ → Option (β × zσ)} (h1 : pu g) (h2 : ∀ v, pu (k v)) : pu (fun t => yb1 (g t) k) := by
  intro t v t2 e
  cases hg : g t with
  | none => simp only [hg] at e; cases e
  | some b =>
    obtain ⟨w, u⟩ := b
    simp only [hg] at e
    have := h1 t w u hg
    subst this
    exact h2 w _ _ _ e
theorem pu_i {β : Type} {c : zσ → Prop} {i : ∀ t, Decidable (c t)} {g k : zσ → Option (β × zσ)} (h1 : pu g) (h2 : pu k) : pu (fun t => if c t then g t else k t) := by
  intro t v t2 e
  by_cases h : c t
  · simp only [if_pos h] at e; exact h1 _ _ _ e
  · simp only [if_neg h] at e; exact h2 _ _ _ e
theorem pu_s {β : Type} {v : β} : pu (fun t => some (v, t)) := by
  intro t w t2 e
  cases e; rfl
end ZPC
