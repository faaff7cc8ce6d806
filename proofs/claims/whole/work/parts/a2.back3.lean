/-! from behind: uses, codes, expressions -/
section ZPE
variable {np y n : Nat} {tz : zσ}
theorem zin_ex {v : Int32} {m : Nat} (h : zin? v m = true) : ∃ k, k < m ∧ k < 2 ^ 31 ∧ v = nI k := by
  have h0 : ¬ v < 0 := fun h1 => by
    unfold zin? at h
    rw [decide_eq_true h1] at h
    cases h
  obtain ⟨k, e, hk⟩ := gnI_of h0
  subst e
  exact ⟨k, (zinN hk).mp h, hk, rfl⟩
/-- a code is written -/
theorem LR_code {cd : Nat} {c v : Int32} {t : zσ} (hy : y = 1134 ∨ y = 1170) (hc : cd < 900) (e : t.1 y 31 = nI cd) : LR np y tz t (sI (sI (sI t (y + 27) cd c) (y + 28) cd v) y 31 (nI (cd + 1))) := by
  refine fun hp => ⟨hp, ?_⟩
  rintro ⟨a1, a2, ⟨cd2, cz, b1, b2, b3, b4, b5⟩, a4, a5, a6, a7⟩
  rw [hIe] at b1
  have hb1 : cd2 = cd + 1 := ((neqN (by omega) (by omega)).mp b1).symm
  subst hb1
  refine ⟨?_, ?_, ⟨cd, cz, e, b2, by omega, b4, fun p hpl => ?_⟩, ?_, ?_, ?_, ?_⟩
  · rw [← a1]; simp (disch := omega) only [hIo, hIk]
  · simp (disch := omega) only [hIo, hIk] at a2; exact a2
  · obtain ⟨c1, c2⟩ := b5 p (by omega)
    simp (disch := omega) only [hIo, hIk, hIe] at c1 c2
    exact ⟨c1, c2⟩
  · simp (disch := omega) only [hIo, hIk] at a4; exact a4
  · simp (disch := omega) only [hIo, hIk] at a5; exact a5
  · simp (disch := omega) only [hIo, hIk] at a6; exact a6
  · simp (disch := omega) only [hIo, hIk] at a7; exact a7
theorem b196 {c v : Int32} {t : zσ} (hy : y = 1134 ∨ y = 1170) : bk (fun u => u) (LR np y tz) (f196 n c v t) t := by
  unfold f196
  refine bk_y1 LR_tr (bk_pu pu_167 _) (fun w u => bk_ite (fun _ => bk_some LR_rf) (fun _ => bk_rdL (bk_rdL (bk_ite (fun h => ?_) (fun _ => bk_none)))))
  obtain ⟨cd, c1, c2, c3⟩ := zin_ex h
  intro b e hp
  have hp2 : (sI u (y + 27) cd c).2.2 1132 12 = some y := hp
  have hp3 : (sI (sI u (y + 27) cd c) (y + 28) cd v).2.2 1132 12 = some y := hp
  simp (disch := omega) only [zlet, c3, nxN, hIo, hp2, hp3, grd (gck12 hy), zinN, if_pos c1, naddL] at e
  cases e
  exact LR_code hy c1 c3 hp
/-- a use is written -/
theorem LR_use {us : Nat} {nm : Int64} {a w p : Int32} {t : zσ} (hy : y = 1134 ∨ y = 1170) (hc : us < 1400) (e : t.1 y 34 = nI us) : LR np y tz t (sI (sI (sI (sI (sI (sJ t (y + 29) us nm) (y + 30) us a) (y + 31) us w) (y + 32) us p) (y + 35) us (-1)) y 34 (nI (us + 1))) := by
  refine fun hp => ⟨hp, ?_⟩
  rintro ⟨a1, ⟨us2, uz, b1, b2, b3, b4, b5⟩, a3, a4, a5, a6, a7⟩
  rw [hIe] at b1
  have hb1 : us2 = us + 1 := ((neqN (by omega) (by omega)).mp b1).symm
  subst hb1
  refine ⟨?_, ⟨us, uz, e, b2, by omega, b4, fun u hu => ?_⟩, ?_, ?_, ?_, ?_, ?_⟩
  · rw [← a1]; simp (disch := omega) only [hIo, hIk, gJ1]
  · obtain ⟨c1, c2, c3, c4⟩ := b5 u (by omega)
    simp (disch := omega) only [hIo, hIk, hIe, gJ1, gI2, rJk] at c1 c2 c3 c4
    exact ⟨c1, c2, c3, c4⟩
  · simp (disch := omega) only [hIo, hIk, gJ1] at a3; exact a3
  · simp (disch := omega) only [hIo, hIk, gJ1] at a4; exact a4
  · simp (disch := omega) only [hIo, hIk, gJ1] at a5; exact a5
  · simp (disch := omega) only [hIo, hIk, gJ1] at a6; exact a6
  · intro q hq
    obtain ⟨d1, d2⟩ := a7 q hq
    simp (disch := omega) only [hIo, gJ1] at d1
    refine ⟨d1, fun k hk => ?_⟩
    have d3 := d2 k hk
    simp (disch := omega) only [gI2, rJo] at d3
    exact d3
/-- use: what it does at all -/
theorem use_inv {x v : Int32} {t t2 : zσ} (hn : 5000 ≤ n) (hy : y = 1134 ∨ y = 1170) (hp : t.2.2 1132 12 = some y) (e : f189 n x t = some (v, t2)) : (t.1 1132 9 = 0 ∧ ∃ us t1, us < 1400 ∧ t.1 y 34 = nI us ∧ v = nI us ∧ t1 = sI (sI (sI (sI (sI (sJ t (y + 29) us (t.2.1 1132 6)) (y + 30) us (t.1 1132 4)) (y + 31) us x) (y + 32) us (t.1 1132 15)) (y + 35) us (-1)) y 34 (nI (us + 1)) ∧ frN t1 t2) ∨ (¬ t2.1 1132 9 = 0 ∧ t2.2.2 = t.2.2) := by
  unfold f189 at e
  by_cases h9 : t.1 1132 9 = 0
  · rw [m_goes h9, yb1_s, if_neg (by decide)] at e
    cases hN : f175 n t with
    | none => rw [hN] at e; cases e
    | some b =>
      obtain ⟨w, u⟩ := b
      have := pu_175 hn t w u hN
      subst this
      rw [hN, yb1_s] at e
      by_cases hw : w = 0
      · rw [if_pos hw] at e
        right
        have hC : ∃ q, q ≠ 0 ∧ f172 n u = some (sI (sI u 1132 9 q) 1132 10 (u.1 1132 4)) := by
          unfold f172 f172_14 f173
          by_cases h4 : u.1 1132 3 = 4
          · rw [if_pos h4, if_pos h9]; exact ⟨1, by decide, rfl⟩
          · rw [if_neg h4, if_pos h9]; exact ⟨2, by decide, rfl⟩
        obtain ⟨q, q1, q2⟩ := hC
        rw [q2] at e
        cases e
        refine ⟨?_, rfl⟩
        rw [hIk (by decide), hIe]; exact q1
      · rw [if_neg hw, hp, grd (gck12 hy)] at e
        by_cases hz : zin? (u.1 y 34) 1400 = true
        · obtain ⟨us, c1, c2, c3⟩ := zin_ex hz
          simp (disch := omega) only [zlet, c3, nxN, hIo, gJ1, zinN, if_pos c1, naddL] at e
          left
          cases h4 : f164 n (sI (sI (sI (sI (sI (sJ u (y + 29) us (u.2.1 1132 6)) (y + 30) us (u.1 1132 4)) (y + 31) us x) (y + 32) us (u.1 1132 15)) (y + 35) us (-1)) y 34 (nI (us + 1))) with
          | none => rw [h4] at e; cases e
          | some t3 =>
            rw [h4] at e
            have f3 := fr_164 t3 h4
            cases e
            refine ⟨h9, us, _, c1, c3, ?_, rfl, f3⟩
            rw [(f3.1 y (by omega)).1, hIe, nI_pred]
        · rw [if_neg hz] at e; cases e
  · rw [m_goes0 h9, yb1_s, if_pos rfl] at e
    cases e
    exact Or.inr ⟨h9, rfl⟩
theorem b189 {x : Int32} {t : zσ} (hn : 5000 ≤ n) (hy : y = 1134 ∨ y = 1170) : bk (fun u => u.2) (LR np y tz) (f189 n x t) t := by
  intro b e hp
  obtain ⟨v, t2⟩ := b
  rcases use_inv hn hy hp e with ⟨-, us, t1, c1, c2, -, rfl, f3⟩ | ⟨h, h2⟩
  · exact LR_tr _ _ _ (LR_use hy c1 c2) (frN_LR hy f3) hp
  · exact ⟨by rw [h2]; exact hp, fun q => absurd q.1 h⟩
/-- a use whose sort is set behind it -/
theorem LR_use2 {x v w : Int32} {t t2 : zσ} (hn : 5000 ≤ n) (hy : y = 1134 ∨ y = 1170) (e : f189 n x t = some (v, t2)) (h0 : t2.1 1132 9 = 0) : LR np y tz t (sI t2 (y + 31) (nx v) w) := by
  intro hp
  rcases use_inv hn hy hp e with ⟨-, us, t1, c1, c2, c3, rfl, f3⟩ | ⟨h, h2⟩
  · subst c3
    rw [nxN (by omega)]
    -- the same as a use of sort w
    have key := LR_tr _ _ _ (LR_use (np := np) (tz := tz) (nm := t.2.1 1132 6) (a := t.1 1132 4) (w := w) (p := t.1 1132 15) hy c1 c2) (frN_LR (np := np) (tz := tz) hy (t2 := sI t2 (y + 31) us w) ?_) hp
    · exact key
    · obtain ⟨g1, g2, g3, g4⟩ := f3
      refine ⟨fun a ha => ?_, fun k k1 k2 k3 k4 k5 => ?_, fun k hk => g3 k hk, g4⟩
      · obtain ⟨d1, d2, d3⟩ := g1 a ha
        refine ⟨?_, d2, d3⟩
        by_cases hq : a = y + 31
        · subst hq
          funext j
          have d4 := congrFun d1 j
          by_cases hj : j = us
          · subst hj; simp (disch := omega) only [hIo, hIe]
          · simp (disch := omega) only [hIo, hIk, gJ1] at d4 ⊢
            exact d4
        · have : (sI t2 (y + 31) us w).1 a = t2.1 a := hIo hq
          rw [this, d1]
          funext j
          simp only [gI, gJ1]
          by_cases q1 : a = y <;> by_cases q2 : a = y + 35 <;> by_cases q3 : a = y + 32 <;> simp [hq, q1, q2, q3]
      · have d := g2 k k1 k2 k3 k4 k5
        simp (disch := omega) only [hIo, gJ1] at d ⊢
        exact d
  · exact absurd h0 h
end ZPE
