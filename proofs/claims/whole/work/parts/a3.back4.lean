/-! from behind: expressions -/
section ZPF
variable {np y n : Nat} {tz : zσ} {g : zσ → Option zσ}
theorem b193 (hn : 5000 ≤ n) (hy : y = 1134 ∨ y = 1170) (hg : ∀ t, bk (fun u => u) (LR np y tz) (g t) t) (t : zσ) : bk (fun u => u) (LR np y tz) (f193 n g t) t := by
  have h38 : ∀ (r : zσ → Option zσ), (∀ t, bk (fun u => u) (LR np y tz) (r t) t) → ∀ t, bk (fun u => u) (LR np y tz) (f193_38 n g r t) t := fun r hr t => by
    unfold f193_38
    repeat' (first | (with_reducible exact hr _) | (with_reducible exact hg _) | (with_reducible exact b195 hy) | (with_reducible exact b164 hy) | (with_reducible exact b196 hy) | (with_reducible exact b195 hy) | (with_reducible exact b164 hy) | (with_reducible exact b196 hy) | (with_reducible exact b182 hy) | (with_reducible exact b179 hy) | (with_reducible exact b172 hy) | (with_reducible exact b173 hy (by decide)) | (with_reducible exact b189 hn hy) | (with_reducible exact b190 hn hy _) | (with_reducible exact b178 hy) | (with_reducible exact bk_none) | (with_reducible exact bk_some LR_rf) | (with_reducible refine bk_ite (fun _ => ?_) (fun _ => ?_)) | (with_reducible refine bk_rdL ?_) | (with_reducible refine bk_zS LR_tr (LR_I ?_ ?_ ?_ ?_) ?_) | (with_reducible refine bk_zS LR_tr (LR_J ?_ ?_) ?_) | (with_reducible refine bk_zV ?_) | (with_reducible refine bk_y0 LR_tr ?_ (fun _ => ?_)) | (with_reducible refine bk_y1 LR_tr ?_ (fun _ _ => ?_)) | (with_reducible exact bk_pu pu_167 _) | (with_reducible exact bk_pu pu_177 _) | (with_reducible refine bk_pu (pu_170 hn ?_) _) | (with_reducible exact bk_pu (pu_175 hn) _) | (omega) | (decide))
  have h4 : ∀ j t, bk (fun u => u) (LR np y tz) (f193_4 n g j t) t := by
    intro j
    induction j with
    | zero => exact fun t => bk_none
    | succ j ih =>
      intro t
      unfold f193_4
      repeat' (first | (with_reducible exact h38 _ ih _) | (with_reducible exact b195 hy) | (with_reducible exact b164 hy) | (with_reducible exact b196 hy) | (with_reducible exact b182 hy) | (with_reducible exact b179 hy) | (with_reducible exact b172 hy) | (with_reducible exact b173 hy (by decide)) | (with_reducible exact b189 hn hy) | (with_reducible exact b190 hn hy _) | (with_reducible exact b178 hy) | (with_reducible exact bk_none) | (with_reducible exact bk_some LR_rf) | (with_reducible refine bk_ite (fun _ => ?_) (fun _ => ?_)) | (with_reducible refine bk_rdL ?_) | (with_reducible refine bk_zS LR_tr (LR_I ?_ ?_ ?_ ?_) ?_) | (with_reducible refine bk_zS LR_tr (LR_J ?_ ?_) ?_) | (with_reducible refine bk_zV ?_) | (with_reducible refine bk_y0 LR_tr ?_ (fun _ => ?_)) | (with_reducible refine bk_y1 LR_tr ?_ (fun _ _ => ?_)) | (with_reducible exact bk_pu pu_167 _) | (with_reducible exact bk_pu pu_177 _) | (with_reducible refine bk_pu (pu_170 hn ?_) _) | (with_reducible exact bk_pu (pu_175 hn) _) | (omega) | (decide))
  unfold f193
  repeat' (first | (with_reducible exact hg _) | (with_reducible exact h4 _ _) | (with_reducible exact b195 hy) | (with_reducible exact b164 hy) | (with_reducible exact b196 hy) | (with_reducible exact b182 hy) | (with_reducible exact b179 hy) | (with_reducible exact b172 hy) | (with_reducible exact b173 hy (by decide)) | (with_reducible exact b189 hn hy) | (with_reducible exact b190 hn hy _) | (with_reducible exact b178 hy) | (with_reducible exact bk_none) | (with_reducible exact bk_some LR_rf) | (with_reducible refine bk_ite (fun _ => ?_) (fun _ => ?_)) | (with_reducible refine bk_rdL ?_) | (with_reducible refine bk_zS LR_tr (LR_I ?_ ?_ ?_ ?_) ?_) | (with_reducible refine bk_zS LR_tr (LR_J ?_ ?_) ?_) | (with_reducible refine bk_zV ?_) | (with_reducible refine bk_y0 LR_tr ?_ (fun _ => ?_)) | (with_reducible refine bk_y1 LR_tr ?_ (fun _ _ => ?_)) | (with_reducible exact bk_pu pu_167 _) | (with_reducible exact bk_pu pu_177 _) | (with_reducible refine bk_pu (pu_170 hn ?_) _) | (with_reducible exact bk_pu (pu_175 hn) _) | (omega) | (decide))
theorem b192 (hn : 5000 ≤ n) (hy : y = 1134 ∨ y = 1170) (hg : ∀ t, bk (fun u => u) (LR np y tz) (g t) t) (t : zσ) : bk (fun u => u) (LR np y tz) (f192 n g t) t := by
  have h38 : ∀ (r : zσ → Option zσ), (∀ t, bk (fun u => u) (LR np y tz) (r t) t) → ∀ t, bk (fun u => u) (LR np y tz) (f192_29 n g r t) t := fun r hr t => by
    unfold f192_29
    repeat' (first | (with_reducible exact hr _) | (with_reducible exact b193 hn hy hg _) | (with_reducible exact b195 hy) | (with_reducible exact b164 hy) | (with_reducible exact b196 hy) | (with_reducible exact b195 hy) | (with_reducible exact b164 hy) | (with_reducible exact b196 hy) | (with_reducible exact b182 hy) | (with_reducible exact b179 hy) | (with_reducible exact b172 hy) | (with_reducible exact b173 hy (by decide)) | (with_reducible exact b189 hn hy) | (with_reducible exact b190 hn hy _) | (with_reducible exact b178 hy) | (with_reducible exact bk_none) | (with_reducible exact bk_some LR_rf) | (with_reducible refine bk_ite (fun _ => ?_) (fun _ => ?_)) | (with_reducible refine bk_rdL ?_) | (with_reducible refine bk_zS LR_tr (LR_I ?_ ?_ ?_ ?_) ?_) | (with_reducible refine bk_zS LR_tr (LR_J ?_ ?_) ?_) | (with_reducible refine bk_zV ?_) | (with_reducible refine bk_y0 LR_tr ?_ (fun _ => ?_)) | (with_reducible refine bk_y1 LR_tr ?_ (fun _ _ => ?_)) | (with_reducible exact bk_pu pu_167 _) | (with_reducible exact bk_pu pu_177 _) | (with_reducible refine bk_pu (pu_170 hn ?_) _) | (with_reducible exact bk_pu (pu_175 hn) _) | (omega) | (decide))
  have h4 : ∀ j t, bk (fun u => u) (LR np y tz) (f192_4 n g j t) t := by
    intro j
    induction j with
    | zero => exact fun t => bk_none
    | succ j ih =>
      intro t
      unfold f192_4
      repeat' (first | (with_reducible exact h38 _ ih _) | (with_reducible exact b195 hy) | (with_reducible exact b164 hy) | (with_reducible exact b196 hy) | (with_reducible exact b182 hy) | (with_reducible exact b179 hy) | (with_reducible exact b172 hy) | (with_reducible exact b173 hy (by decide)) | (with_reducible exact b189 hn hy) | (with_reducible exact b190 hn hy _) | (with_reducible exact b178 hy) | (with_reducible exact bk_none) | (with_reducible exact bk_some LR_rf) | (with_reducible refine bk_ite (fun _ => ?_) (fun _ => ?_)) | (with_reducible refine bk_rdL ?_) | (with_reducible refine bk_zS LR_tr (LR_I ?_ ?_ ?_ ?_) ?_) | (with_reducible refine bk_zS LR_tr (LR_J ?_ ?_) ?_) | (with_reducible refine bk_zV ?_) | (with_reducible refine bk_y0 LR_tr ?_ (fun _ => ?_)) | (with_reducible refine bk_y1 LR_tr ?_ (fun _ _ => ?_)) | (with_reducible exact bk_pu pu_167 _) | (with_reducible exact bk_pu pu_177 _) | (with_reducible refine bk_pu (pu_170 hn ?_) _) | (with_reducible exact bk_pu (pu_175 hn) _) | (omega) | (decide))
  unfold f192
  repeat' (first | (with_reducible exact b193 hn hy hg _) | (with_reducible exact h4 _ _) | (with_reducible exact b195 hy) | (with_reducible exact b164 hy) | (with_reducible exact b196 hy) | (with_reducible exact b182 hy) | (with_reducible exact b179 hy) | (with_reducible exact b172 hy) | (with_reducible exact b173 hy (by decide)) | (with_reducible exact b189 hn hy) | (with_reducible exact b190 hn hy _) | (with_reducible exact b178 hy) | (with_reducible exact bk_none) | (with_reducible exact bk_some LR_rf) | (with_reducible refine bk_ite (fun _ => ?_) (fun _ => ?_)) | (with_reducible refine bk_rdL ?_) | (with_reducible refine bk_zS LR_tr (LR_I ?_ ?_ ?_ ?_) ?_) | (with_reducible refine bk_zS LR_tr (LR_J ?_ ?_) ?_) | (with_reducible refine bk_zV ?_) | (with_reducible refine bk_y0 LR_tr ?_ (fun _ => ?_)) | (with_reducible refine bk_y1 LR_tr ?_ (fun _ _ => ?_)) | (with_reducible exact bk_pu pu_167 _) | (with_reducible exact bk_pu pu_177 _) | (with_reducible refine bk_pu (pu_170 hn ?_) _) | (with_reducible exact bk_pu (pu_175 hn) _) | (omega) | (decide))
theorem b191 (hn : 5000 ≤ n) (hy : y = 1134 ∨ y = 1170) (hg : ∀ t, bk (fun u => u) (LR np y tz) (g t) t) (t : zσ) : bk (fun u => u) (LR np y tz) (f191 n g t) t := by
  have h38 : ∀ t, bk (fun u => u) (LR np y tz) (f191_38 n g t) t := fun t => by
    unfold f191_38
    repeat' (first | (with_reducible exact b192 hn hy hg _) | (with_reducible exact b195 hy) | (with_reducible exact b164 hy) | (with_reducible exact b196 hy) | (with_reducible exact b195 hy) | (with_reducible exact b164 hy) | (with_reducible exact b196 hy) | (with_reducible exact b182 hy) | (with_reducible exact b179 hy) | (with_reducible exact b172 hy) | (with_reducible exact b173 hy (by decide)) | (with_reducible exact b189 hn hy) | (with_reducible exact b190 hn hy _) | (with_reducible exact b178 hy) | (with_reducible exact bk_none) | (with_reducible exact bk_some LR_rf) | (with_reducible refine bk_ite (fun _ => ?_) (fun _ => ?_)) | (with_reducible refine bk_rdL ?_) | (with_reducible refine bk_zS LR_tr (LR_I ?_ ?_ ?_ ?_) ?_) | (with_reducible refine bk_zS LR_tr (LR_J ?_ ?_) ?_) | (with_reducible refine bk_zV ?_) | (with_reducible refine bk_y0 LR_tr ?_ (fun _ => ?_)) | (with_reducible refine bk_y1 LR_tr ?_ (fun _ _ => ?_)) | (with_reducible exact bk_pu pu_167 _) | (with_reducible exact bk_pu pu_177 _) | (with_reducible refine bk_pu (pu_170 hn ?_) _) | (with_reducible exact bk_pu (pu_175 hn) _) | (omega) | (decide))
  unfold f191
  repeat' (first | (with_reducible exact b192 hn hy hg _) | (with_reducible exact h38 _) | (with_reducible exact b195 hy) | (with_reducible exact b164 hy) | (with_reducible exact b196 hy) | (with_reducible exact b182 hy) | (with_reducible exact b179 hy) | (with_reducible exact b172 hy) | (with_reducible exact b173 hy (by decide)) | (with_reducible exact b189 hn hy) | (with_reducible exact b190 hn hy _) | (with_reducible exact b178 hy) | (with_reducible exact bk_none) | (with_reducible exact bk_some LR_rf) | (with_reducible refine bk_ite (fun _ => ?_) (fun _ => ?_)) | (with_reducible refine bk_rdL ?_) | (with_reducible refine bk_zS LR_tr (LR_I ?_ ?_ ?_ ?_) ?_) | (with_reducible refine bk_zS LR_tr (LR_J ?_ ?_) ?_) | (with_reducible refine bk_zV ?_) | (with_reducible refine bk_y0 LR_tr ?_ (fun _ => ?_)) | (with_reducible refine bk_y1 LR_tr ?_ (fun _ _ => ?_)) | (with_reducible exact bk_pu pu_167 _) | (with_reducible exact bk_pu pu_177 _) | (with_reducible refine bk_pu (pu_170 hn ?_) _) | (with_reducible exact bk_pu (pu_175 hn) _) | (omega) | (decide))
theorem b197 (hn : 5000 ≤ n) (hy : y = 1134 ∨ y = 1170) (hg : ∀ t, bk (fun u => u) (LR np y tz) (g t) t) (t : zσ) : bk (fun u => u) (LR np y tz) (f197 n g t) t := by
  have h77 : ∀ v t, bk (fun u => u) (LR np y tz) (f197_77 n g v t) t := fun v t => by
    unfold f197_77
    repeat' (first | (with_reducible exact b196 hy) | (with_reducible exact b195 hy) | (with_reducible exact b164 hy) | (with_reducible exact b196 hy) | (with_reducible exact b182 hy) | (with_reducible exact b179 hy) | (with_reducible exact b172 hy) | (with_reducible exact b173 hy (by decide)) | (with_reducible exact b189 hn hy) | (with_reducible exact b190 hn hy _) | (with_reducible exact b178 hy) | (with_reducible exact bk_none) | (with_reducible exact bk_some LR_rf) | (with_reducible refine bk_ite (fun _ => ?_) (fun _ => ?_)) | (with_reducible refine bk_rdL ?_) | (with_reducible refine bk_zS LR_tr (LR_I ?_ ?_ ?_ ?_) ?_) | (with_reducible refine bk_zS LR_tr (LR_J ?_ ?_) ?_) | (with_reducible refine bk_zV ?_) | (with_reducible refine bk_y0 LR_tr ?_ (fun _ => ?_)) | (with_reducible refine bk_y1 LR_tr ?_ (fun _ _ => ?_)) | (with_reducible exact bk_pu pu_167 _) | (with_reducible exact bk_pu pu_177 _) | (with_reducible refine bk_pu (pu_170 hn ?_) _) | (with_reducible exact bk_pu (pu_175 hn) _) | (omega) | (decide))
  intro b e
  unfold f197 at e
  cases h : f189 n 10 t with
  | none => rw [h] at e; cases e
  | some w =>
    obtain ⟨v, u⟩ := w
    have hl : LR np y tz t u := b189 hn hy (v, u) h
    rw [h, yb1_s] at e
    by_cases h0 : u.1 1132 9 = 0
    · rw [m_goes h0, yb1_s, if_neg (by decide)] at e
      cases h2 : f177 n 91 u with
      | none => rw [h2] at e; cases e
      | some w2 =>
        obtain ⟨v2, u2⟩ := w2
        have := pu_177 u v2 u2 h2
        subst this
        rw [h2, yb1_s] at e
        by_cases hv : v2 = 0
        · rw [if_pos hv] at e
          exact LR_tr _ _ _ hl (h77 _ _ b e)
        · rw [if_neg hv] at e
          intro hp
          have hp2 := (hl hp).1
          rw [hp2, grd (gck12 hy)] at e
          by_cases hz : zin? v 1400 = true
          · rw [if_pos hz] at e
            refine LR_tr _ _ _ (LR_use2 (w := 1) hn hy h h0) ?_ hp
            revert e
            show _ → LR np y tz _ ((fun u : zσ => u) b)
            revert b
            show bk (fun u => u) (LR np y tz) _ _
            refine bk_zS LR_tr LR_rf ?_
            repeat' (first | (with_reducible exact b182 hy) | (with_reducible exact b164 hy) | (with_reducible exact b191 hn hy hg _) | (with_reducible exact b179 hy) | (with_reducible exact b196 hy) | (with_reducible exact b195 hy) | (with_reducible exact b164 hy) | (with_reducible exact b196 hy) | (with_reducible exact b182 hy) | (with_reducible exact b179 hy) | (with_reducible exact b172 hy) | (with_reducible exact b173 hy (by decide)) | (with_reducible exact b189 hn hy) | (with_reducible exact b190 hn hy _) | (with_reducible exact b178 hy) | (with_reducible exact bk_none) | (with_reducible exact bk_some LR_rf) | (with_reducible refine bk_ite (fun _ => ?_) (fun _ => ?_)) | (with_reducible refine bk_rdL ?_) | (with_reducible refine bk_zS LR_tr (LR_I ?_ ?_ ?_ ?_) ?_) | (with_reducible refine bk_zS LR_tr (LR_J ?_ ?_) ?_) | (with_reducible refine bk_zV ?_) | (with_reducible refine bk_y0 LR_tr ?_ (fun _ => ?_)) | (with_reducible refine bk_y1 LR_tr ?_ (fun _ _ => ?_)) | (with_reducible exact bk_pu pu_167 _) | (with_reducible exact bk_pu pu_177 _) | (with_reducible refine bk_pu (pu_170 hn ?_) _) | (with_reducible exact bk_pu (pu_175 hn) _) | (omega) | (decide))
          · rw [if_neg hz] at e; cases e
    · rw [m_goes0 h0, yb1_s, if_pos rfl] at e
      exact LR_tr _ _ _ hl (h77 _ _ b e)
theorem b194b (hn : 5000 ≤ n) (hy : y = 1134 ∨ y = 1170) (hg : ∀ t, bk (fun u => u) (LR np y tz) (g t) t) (t : zσ) : bk (fun u => u) (LR np y tz) (f194b n g t) t := by
  have h74 : ∀ t, bk (fun u => u) (LR np y tz) (f194_74 n g t) t := fun t => by
    unfold f194_74 f194_100 f194_111
    repeat' (first | (with_reducible exact b195 hy) | (with_reducible exact b164 hy) | (with_reducible exact b189 hn hy) | (with_reducible exact b196 hy) | (with_reducible exact b195 hy) | (with_reducible exact b164 hy) | (with_reducible exact b196 hy) | (with_reducible exact b182 hy) | (with_reducible exact b179 hy) | (with_reducible exact b172 hy) | (with_reducible exact b173 hy (by decide)) | (with_reducible exact b189 hn hy) | (with_reducible exact b190 hn hy _) | (with_reducible exact b178 hy) | (with_reducible exact bk_none) | (with_reducible exact bk_some LR_rf) | (with_reducible refine bk_ite (fun _ => ?_) (fun _ => ?_)) | (with_reducible refine bk_rdL ?_) | (with_reducible refine bk_zS LR_tr (LR_I ?_ ?_ ?_ ?_) ?_) | (with_reducible refine bk_zS LR_tr (LR_J ?_ ?_) ?_) | (with_reducible refine bk_zV ?_) | (with_reducible refine bk_y0 LR_tr ?_ (fun _ => ?_)) | (with_reducible refine bk_y1 LR_tr ?_ (fun _ _ => ?_)) | (with_reducible exact bk_pu pu_167 _) | (with_reducible exact bk_pu pu_177 _) | (with_reducible refine bk_pu (pu_170 hn ?_) _) | (with_reducible exact bk_pu (pu_175 hn) _) | (omega) | (decide))
  unfold f194b
  repeat' (first | (with_reducible exact h74 _) | (with_reducible exact b195 hy) | (with_reducible exact b164 hy) | (with_reducible exact b189 hn hy) | (with_reducible exact b196 hy) | (with_reducible exact b182 hy) | (with_reducible exact b191 hn hy hg _) | (with_reducible exact b179 hy) | (with_reducible exact hg _) | (with_reducible exact b172 hy) | (with_reducible exact b197 hn hy hg _) | (with_reducible exact b195 hy) | (with_reducible exact b164 hy) | (with_reducible exact b196 hy) | (with_reducible exact b182 hy) | (with_reducible exact b179 hy) | (with_reducible exact b172 hy) | (with_reducible exact b173 hy (by decide)) | (with_reducible exact b189 hn hy) | (with_reducible exact b190 hn hy _) | (with_reducible exact b178 hy) | (with_reducible exact bk_none) | (with_reducible exact bk_some LR_rf) | (with_reducible refine bk_ite (fun _ => ?_) (fun _ => ?_)) | (with_reducible refine bk_rdL ?_) | (with_reducible refine bk_zS LR_tr (LR_I ?_ ?_ ?_ ?_) ?_) | (with_reducible refine bk_zS LR_tr (LR_J ?_ ?_) ?_) | (with_reducible refine bk_zV ?_) | (with_reducible refine bk_y0 LR_tr ?_ (fun _ => ?_)) | (with_reducible refine bk_y1 LR_tr ?_ (fun _ _ => ?_)) | (with_reducible exact bk_pu pu_167 _) | (with_reducible exact bk_pu pu_177 _) | (with_reducible refine bk_pu (pu_170 hn ?_) _) | (with_reducible exact bk_pu (pu_175 hn) _) | (omega) | (decide))
theorem b194 (hn : 5000 ≤ n) (hy : y = 1134 ∨ y = 1170) : ∀ (k : Nat) (t : zσ), bk (fun u => u) (LR np y tz) (f194 n k t) t
  | 0, _ => bk_none
  | k + 1, t => b194b hn hy (b194 hn hy k) t
/-- an expression's row -/
theorem LR_ex {es : Nat} {c v : Int32} {t : zσ} (hy : y = 1134 ∨ y = 1170) (hc : es < 401) (e : t.1 y 28 = nI es) : LR np y tz t (sI (sI (sI t (y + 25) es c) (y + 26) es v) y 28 (nI (es + 1))) := by
  refine fun hp => ⟨hp, ?_⟩
  rintro ⟨a1, a2, a3, ⟨es2, ez, b1, b2, b3, b4, b5⟩, a5, a6, a7⟩
  rw [hIe] at b1
  have hb1 : es2 = es + 1 := ((neqN (by omega) (by omega)).mp b1).symm
  subst hb1
  refine ⟨?_, ?_, ?_, ⟨es, ez, e, b2, by omega, b4, fun p hpl => ?_⟩, ?_, ?_, ?_⟩
  · rw [← a1]; simp (disch := omega) only [hIo, hIk]
  · simp (disch := omega) only [hIo, hIk] at a2; exact a2
  · simp (disch := omega) only [hIo, hIk] at a3; exact a3
  · obtain ⟨c1, c2⟩ := b5 p (by omega)
    simp (disch := omega) only [hIo, hIk, hIe] at c1 c2
    exact ⟨c1, c2⟩
  · simp (disch := omega) only [hIo, hIk] at a5; exact a5
  · simp (disch := omega) only [hIo, hIk] at a6; exact a6
  · simp (disch := omega) only [hIo, hIk] at a7; exact a7
theorem b190 (hn : 5000 ≤ n) (hy : y = 1134 ∨ y = 1170) (t : zσ) : bk (fun u => u.2) (LR np y tz) (f190 n t) t := by
  unfold f190 f190_79
  refine bk_y1 LR_tr (bk_pu pu_167 _) (fun v1 u1 => bk_ite (fun _ => bk_some LR_rf) (fun _ => bk_rdL (bk_zV (bk_y0 LR_tr (b191 hn hy (b194 hn hy 20) _) (fun u5 => bk_y1 LR_tr (bk_pu pu_167 _) (fun v6 u6 => bk_ite (fun _ => bk_rdL (bk_some LR_rf)) (fun _ => bk_rdL (bk_rdL (bk_ite (fun h => ?_) (fun _ => bk_none))))))))))
  obtain ⟨es, c1, c2, c3⟩ := zin_ex h
  intro b e hp
  have hp2 : ∀ q, (sI u6 (y + 25) es q).2.2 1132 12 = some y := fun q => hp
  have hp3 : ∀ q r, (sI (sI u6 (y + 25) es q) (y + 26) es r).2.2 1132 12 = some y := fun q r => hp
  have hp4 : ∀ q r w, (sI (sI (sI u6 (y + 25) es q) (y + 26) es r) y 28 w).2.2 1132 12 = some y := fun q r w => hp
  simp (disch := omega) only [zlet, c3, nxN, hIo, hp2, hp3, hp4, grd (gck12 hy), zinN, if_pos c1, naddL] at e
  cases e
  exact LR_ex hy c1 c3 hp
end ZPF
