/-! from behind: statements, blocks, declarations -/
section ZPG
variable {np y n : Nat} {tz : zσ}
theorem sI_comm {s : zσ} {a b k j : Nat} {v w : Int32} (h : a ≠ b) : sI (sI s a k v) b j w = sI (sI s b j w) a k v := by
  refine Prod.ext ?_ rfl
  funext c i
  simp only [gI]
  by_cases h1 : c = a
  · subst h1
    simp [h]
  · simp [h1]
theorem LR_16 {k na m : Nat} {t : zσ} (hy : y = 1134 ∨ y = 1170) (hk : k = 16 ∧ m = 200 ∨ k = 13 ∧ m = 2000) (hc : na < m) (e : t.1 y k = nI na) : LR np y tz t (sI t y k (nI (na + 1))) := by
  refine fun hp => ⟨hp, ?_⟩
  rintro ⟨a1, a2, a3, a4, a5, a6, a7⟩
  refine ⟨?_, ?_, ?_, ?_, ?_, ?_, ?_⟩
  · rw [← a1]; simp (disch := omega) only [hIo]
  · simp (disch := omega) only [hIo, hIk] at a2; exact a2
  · simp (disch := omega) only [hIo, hIk] at a3; exact a3
  · simp (disch := omega) only [hIo, hIk] at a4; exact a4
  · rcases hk with ⟨rfl, rfl⟩ | ⟨rfl, rfl⟩
    · obtain ⟨n1, nz, b1, b2, b3, b4⟩ := a5
      rw [hIe] at b1
      have := (neqN (by omega) (by omega)).mp b1
      exact ⟨na, nz, e, b2, by omega, b4⟩
    · rw [hIk (by decide)] at a5; exact a5
  · rcases hk with ⟨rfl, rfl⟩ | ⟨rfl, rfl⟩
    · rw [hIk (by decide)] at a6; exact a6
    · obtain ⟨n1, nz, b1, b2, b3, b4⟩ := a6
      rw [hIe] at b1
      have := (neqN (by omega) (by omega)).mp b1
      exact ⟨na, nz, e, b2, by omega, b4⟩
  · simp (disch := omega) only [hIo] at a7; exact a7
theorem pu_200 (hn : 5000 ≤ n) : pu (f200 n) := by
  unfold f200 f200_63
  refine pu_i (c := fun s => s.1 1132 3 = 2) pu_s ?_
  refine pu_y (pu_175 hn) (fun v => ?_)
  have i : ∀ (v : Int32) {g k : zσ → Option (Int32 × zσ)}, pu g → pu k → pu (fun t => if v = 0 then g t else k t) := fun v g k h1 h2 => pu_i (c := fun _ => v = 0) h1 h2
  refine i v ?_ pu_s
  refine pu_y (pu_170 hn (by decide)) (fun v => i v ?_ pu_s)
  refine pu_y (pu_170 hn (by decide)) (fun v => i v ?_ pu_s)
  refine pu_y (pu_170 hn (by decide)) (fun v => i v ?_ pu_s)
  refine pu_y pu_177 (fun v => i v ?_ pu_s)
  exact pu_y pu_177 (fun v => i v pu_s pu_s)
theorem pu_185 (hn : 5000 ≤ n) : pu (f185 n) := by
  unfold f185
  have i : ∀ (v : Int32) {g k : zσ → Option (Int32 × zσ)}, pu g → pu k → pu (fun t => if v = 0 then g t else k t) := fun v g k h1 h2 => pu_i (c := fun _ => v = 0) h1 h2
  refine pu_y (pu_170 hn (by decide)) (fun v => i v ?_ pu_s)
  refine pu_y (pu_170 hn (by decide)) (fun v => i v ?_ pu_s)
  refine pu_y (pu_170 hn (by decide)) (fun v => i v ?_ pu_s)
  exact pu_y (pu_170 hn (by decide)) (fun v => i v pu_s pu_s)
theorem pu_187 {x : Int64} (hn : 5000 ≤ n) : pu (f187 n x) := by
  unfold f187
  have i : ∀ (v : Int64) {g k : zσ → Option (Int32 × zσ)}, pu g → pu k → pu (fun t => if x = v then g t else k t) := fun v g k h1 h2 => pu_i (c := fun _ => x = v) h1 h2
  refine pu_y (pu_171 hn (by decide)) (fun v => i v pu_s ?_)
  refine pu_y (pu_171 hn (by decide)) (fun v => i v pu_s ?_)
  refine pu_y (pu_171 hn (by decide)) (fun v => i v pu_s ?_)
  refine pu_y (pu_171 hn (by decide)) (fun v => i v pu_s ?_)
  refine pu_y (pu_171 hn (by decide)) (fun v => i v pu_s ?_)
  refine pu_y (pu_171 hn (by decide)) (fun v => i v pu_s ?_)
  refine pu_y (pu_171 hn (by decide)) (fun v => i v pu_s ?_)
  refine pu_y (pu_171 hn (by decide)) (fun v => i v pu_s ?_)
  refine pu_y (pu_171 hn (by decide)) (fun v => i v pu_s ?_)
  refine pu_y (pu_171 hn (by decide)) (fun v => i v pu_s ?_)
  refine pu_y (pu_171 hn (by decide)) (fun v => i v pu_s ?_)
  refine pu_y (pu_171 hn (by decide)) (fun v => i v pu_s ?_)
  exact pu_y (pu_171 hn (by decide)) (fun v => i v pu_s pu_s)
theorem pu_186 {x : Int64} (hn : 5000 ≤ n) : pu (f186 n x) := by
  unfold f186
  have i : ∀ (v : Int64) {g k : zσ → Option (Int32 × zσ)}, pu g → pu k → pu (fun t => if x = v then g t else k t) := fun v g k h1 h2 => pu_i (c := fun _ => x = v) h1 h2
  refine pu_y (pu_171 hn (by decide)) (fun v => i v pu_s ?_)
  refine pu_y (pu_171 hn (by decide)) (fun v => i v pu_s ?_)
  refine pu_y (pu_171 hn (by decide)) (fun v => i v pu_s ?_)
  refine pu_y (pu_171 hn (by decide)) (fun v => i v pu_s ?_)
  refine pu_y (pu_171 hn (by decide)) (fun v => i v pu_s ?_)
  refine pu_y (pu_171 hn (by decide)) (fun v => i v pu_s ?_)
  refine pu_y (pu_171 hn (by decide)) (fun v => i v pu_s ?_)
  refine pu_y (pu_171 hn (by decide)) (fun v => i v pu_s ?_)
  refine pu_y (pu_171 hn (by decide)) (fun v => i v pu_s ?_)
  refine pu_y (pu_171 hn (by decide)) (fun v => i v pu_s ?_)
  refine pu_y (pu_171 hn (by decide)) (fun v => i v pu_s ?_)
  refine pu_y (pu_171 hn (by decide)) (fun v => i v pu_s ?_)
  refine pu_y (pu_171 hn (by decide)) (fun v => i v pu_s ?_)
  exact pu_y (pu_187 hn) (fun v => pu_s)
theorem b202 {x : Int32} (hn : 5000 ≤ n) (hy : y = 1134 ∨ y = 1170) (t : zσ) : bk (fun u => u) (LR np y tz) (f202 n x t) t := by
  have h : ∀ j a b (t : zσ), bk (fun u => u) (LR np y tz) (f202_10 n j x y a b t) t := by
    intro j
    induction j with
    | zero => exact fun _ _ _ => bk_none
    | succ j ih =>
      intro a b t
      unfold f202_10 f202_82 f202_83
      repeat' (first | (with_reducible exact ih _ _ _) | (with_reducible exact b189 hn hy) | (with_reducible exact b172 hy) | (with_reducible refine b173 hy ?_) | (with_reducible exact b164 hy) | (with_reducible exact b195 hy) | (with_reducible exact b164 hy) | (with_reducible exact b196 hy) | (with_reducible exact b182 hy) | (with_reducible exact b179 hy) | (with_reducible exact b172 hy) | (with_reducible exact b173 hy (by decide)) | (with_reducible exact b189 hn hy) | (with_reducible exact b190 hn hy _) | (with_reducible exact b178 hy) | (with_reducible exact bk_none) | (with_reducible exact bk_some LR_rf) | (with_reducible refine bk_ite (fun _ => ?_) (fun _ => ?_)) | (with_reducible refine bk_rdL ?_) | (with_reducible refine bk_zS LR_tr (LR_I ?_ ?_ ?_ ?_) ?_) | (with_reducible refine bk_zS LR_tr (LR_J ?_ ?_) ?_) | (with_reducible refine bk_zV ?_) | (with_reducible refine bk_y0 LR_tr ?_ (fun _ => ?_)) | (with_reducible refine bk_y1 LR_tr ?_ (fun _ _ => ?_)) | (with_reducible exact bk_pu pu_167 _) | (with_reducible exact bk_pu pu_177 _) | (with_reducible refine bk_pu (pu_170 hn ?_) _) | (with_reducible exact bk_pu (pu_175 hn) _) | (omega) | (decide))
  unfold f202
  repeat' (first | (with_reducible exact h _ _ _ _) | (with_reducible exact b195 hy) | (with_reducible exact b164 hy) | (with_reducible exact b196 hy) | (with_reducible exact b182 hy) | (with_reducible exact b179 hy) | (with_reducible exact b172 hy) | (with_reducible exact b173 hy (by decide)) | (with_reducible exact b189 hn hy) | (with_reducible exact b190 hn hy _) | (with_reducible exact b178 hy) | (with_reducible exact bk_none) | (with_reducible exact bk_some LR_rf) | (with_reducible refine bk_ite (fun _ => ?_) (fun _ => ?_)) | (with_reducible refine bk_rdL ?_) | (with_reducible refine bk_zS LR_tr (LR_I ?_ ?_ ?_ ?_) ?_) | (with_reducible refine bk_zS LR_tr (LR_J ?_ ?_) ?_) | (with_reducible refine bk_zV ?_) | (with_reducible refine bk_y0 LR_tr ?_ (fun _ => ?_)) | (with_reducible refine bk_y1 LR_tr ?_ (fun _ _ => ?_)) | (with_reducible exact bk_pu pu_167 _) | (with_reducible exact bk_pu pu_177 _) | (with_reducible refine bk_pu (pu_170 hn ?_) _) | (with_reducible exact bk_pu (pu_175 hn) _) | (omega) | (decide))
theorem b199 {x : Int32} (hn : 5000 ≤ n) (hy : y = 1134 ∨ y = 1170) (t : zσ) : bk (fun u => u) (LR np y tz) (f199 n x t) t := by
  have h : ∀ j a b c (t : zσ), bk (fun u => u) (LR np y tz) (f199_51 n j x y a b c t) t := by
    intro j
    induction j with
    | zero => exact fun _ _ _ _ => bk_none
    | succ j ih =>
      intro a b c t
      unfold f199_51 f199_132 f199_133 f199_77
      repeat' (first | (with_reducible exact ih _ _ _ _) | (with_reducible exact b189 hn hy) | (with_reducible exact b172 hy) | (with_reducible refine b173 hy ?_) | (with_reducible exact b164 hy) | (with_reducible exact b179 hy) | (with_reducible exact bk_pu (pu_200 hn) _) | (with_reducible exact b190 hn hy _) | (with_reducible exact b195 hy) | (with_reducible exact b164 hy) | (with_reducible exact b196 hy) | (with_reducible exact b182 hy) | (with_reducible exact b179 hy) | (with_reducible exact b172 hy) | (with_reducible exact b173 hy (by decide)) | (with_reducible exact b189 hn hy) | (with_reducible exact b190 hn hy _) | (with_reducible exact b178 hy) | (with_reducible exact bk_none) | (with_reducible exact bk_some LR_rf) | (with_reducible refine bk_ite (fun _ => ?_) (fun _ => ?_)) | (with_reducible refine bk_rdL ?_) | (with_reducible refine bk_zS LR_tr (LR_I ?_ ?_ ?_ ?_) ?_) | (with_reducible refine bk_zS LR_tr (LR_J ?_ ?_) ?_) | (with_reducible refine bk_zV ?_) | (with_reducible refine bk_y0 LR_tr ?_ (fun _ => ?_)) | (with_reducible refine bk_y1 LR_tr ?_ (fun _ _ => ?_)) | (with_reducible exact bk_pu pu_167 _) | (with_reducible exact bk_pu pu_177 _) | (with_reducible refine bk_pu (pu_170 hn ?_) _) | (with_reducible exact bk_pu (pu_175 hn) _) | (omega) | (decide))
  unfold f199 f199_48 f199_49
  repeat' (first | (with_reducible exact h _ _ _ _ _) | (with_reducible exact b189 hn hy) | (with_reducible exact b179 hy) | (with_reducible exact b195 hy) | (with_reducible exact b164 hy) | (with_reducible exact b196 hy) | (with_reducible exact b182 hy) | (with_reducible exact b179 hy) | (with_reducible exact b172 hy) | (with_reducible exact b173 hy (by decide)) | (with_reducible exact b189 hn hy) | (with_reducible exact b190 hn hy _) | (with_reducible exact b178 hy) | (with_reducible exact bk_none) | (with_reducible exact bk_some LR_rf) | (with_reducible refine bk_ite (fun _ => ?_) (fun _ => ?_)) | (with_reducible refine bk_rdL ?_) | (with_reducible refine bk_zS LR_tr (LR_I ?_ ?_ ?_ ?_) ?_) | (with_reducible refine bk_zS LR_tr (LR_J ?_ ?_) ?_) | (with_reducible refine bk_zV ?_) | (with_reducible refine bk_y0 LR_tr ?_ (fun _ => ?_)) | (with_reducible refine bk_y1 LR_tr ?_ (fun _ _ => ?_)) | (with_reducible exact bk_pu pu_167 _) | (with_reducible exact bk_pu pu_177 _) | (with_reducible refine bk_pu (pu_170 hn ?_) _) | (with_reducible exact bk_pu (pu_175 hn) _) | (omega) | (decide))
theorem b188 {x w : Int32} (hn : 5000 ≤ n) (hy : y = 1134 ∨ y = 1170) (t : zσ) : bk (fun u => u) (LR np y tz) (f188 n x w t) t := by
  have h : ∀ (t : zσ), bk (fun u => u) (LR np y tz) (f188_101 n x y t) t := by
    intro t
    unfold f188_101 f188_128 f188_150
    repeat' (first | (with_reducible exact b189 hn hy) | (with_reducible exact b172 hy) | (with_reducible refine b173 hy ?_) | (with_reducible exact b164 hy) | (with_reducible exact b179 hy) | (with_reducible exact b195 hy) | (with_reducible exact b164 hy) | (with_reducible exact b196 hy) | (with_reducible exact b182 hy) | (with_reducible exact b179 hy) | (with_reducible exact b172 hy) | (with_reducible exact b173 hy (by decide)) | (with_reducible exact b189 hn hy) | (with_reducible exact b190 hn hy _) | (with_reducible exact b178 hy) | (with_reducible exact bk_none) | (with_reducible exact bk_some LR_rf) | (with_reducible refine bk_ite (fun _ => ?_) (fun _ => ?_)) | (with_reducible refine bk_rdL ?_) | (with_reducible refine bk_zS LR_tr (LR_I ?_ ?_ ?_ ?_) ?_) | (with_reducible refine bk_zS LR_tr (LR_J ?_ ?_) ?_) | (with_reducible refine bk_zV ?_) | (with_reducible refine bk_y0 LR_tr ?_ (fun _ => ?_)) | (with_reducible refine bk_y1 LR_tr ?_ (fun _ _ => ?_)) | (with_reducible exact bk_pu pu_167 _) | (with_reducible exact bk_pu pu_177 _) | (with_reducible refine bk_pu (pu_170 hn ?_) _) | (with_reducible exact bk_pu (pu_175 hn) _) | (omega) | (decide))
  unfold f188
  repeat' (first | (with_reducible exact h _) | (with_reducible exact b189 hn hy) | (with_reducible exact b164 hy) | (with_reducible exact b190 hn hy _) | (with_reducible exact b195 hy) | (with_reducible exact b164 hy) | (with_reducible exact b196 hy) | (with_reducible exact b182 hy) | (with_reducible exact b179 hy) | (with_reducible exact b172 hy) | (with_reducible exact b173 hy (by decide)) | (with_reducible exact b189 hn hy) | (with_reducible exact b190 hn hy _) | (with_reducible exact b178 hy) | (with_reducible exact bk_none) | (with_reducible exact bk_some LR_rf) | (with_reducible refine bk_ite (fun _ => ?_) (fun _ => ?_)) | (with_reducible refine bk_rdL ?_) | (with_reducible refine bk_zS LR_tr (LR_I ?_ ?_ ?_ ?_) ?_) | (with_reducible refine bk_zS LR_tr (LR_J ?_ ?_) ?_) | (with_reducible refine bk_zV ?_) | (with_reducible refine bk_y0 LR_tr ?_ (fun _ => ?_)) | (with_reducible refine bk_y1 LR_tr ?_ (fun _ _ => ?_)) | (with_reducible exact bk_pu pu_167 _) | (with_reducible exact bk_pu pu_177 _) | (with_reducible refine bk_pu (pu_170 hn ?_) _) | (with_reducible exact bk_pu (pu_175 hn) _) | (omega) | (decide))
theorem b198 {x : Int32} (hn : 5000 ≤ n) (hy : y = 1134 ∨ y = 1170) (t : zσ) : bk (fun u => u) (LR np y tz) (f198 n x t) t := by
  have h120 : ∀ (t : zσ), bk (fun u => u) (LR np y tz) (f198_120 n x y t) t := by
    intro t
    unfold f198_120 f198_162
    repeat' (first | (with_reducible exact b199 hn hy _) | (with_reducible exact b164 hy) | (with_reducible exact b179 hy) | (with_reducible exact b190 hn hy _) | (with_reducible exact b195 hy) | (with_reducible exact b164 hy) | (with_reducible exact b196 hy) | (with_reducible exact b182 hy) | (with_reducible exact b179 hy) | (with_reducible exact b172 hy) | (with_reducible exact b173 hy (by decide)) | (with_reducible exact b189 hn hy) | (with_reducible exact b190 hn hy _) | (with_reducible exact b178 hy) | (with_reducible exact bk_none) | (with_reducible exact bk_some LR_rf) | (with_reducible refine bk_ite (fun _ => ?_) (fun _ => ?_)) | (with_reducible refine bk_rdL ?_) | (with_reducible refine bk_zS LR_tr (LR_I ?_ ?_ ?_ ?_) ?_) | (with_reducible refine bk_zS LR_tr (LR_J ?_ ?_) ?_) | (with_reducible refine bk_zV ?_) | (with_reducible refine bk_y0 LR_tr ?_ (fun _ => ?_)) | (with_reducible refine bk_y1 LR_tr ?_ (fun _ _ => ?_)) | (with_reducible exact bk_pu pu_167 _) | (with_reducible exact bk_pu pu_177 _) | (with_reducible refine bk_pu (pu_170 hn ?_) _) | (with_reducible exact bk_pu (pu_175 hn) _) | (omega) | (decide))
  have h99 : ∀ (t : zσ), bk (fun u => u) (LR np y tz) (f198_99 n x y t) t := by
    intro t
    unfold f198_99
    repeat' (first | (with_reducible exact b164 hy) | (with_reducible exact b179 hy) | (with_reducible exact b190 hn hy _) | (with_reducible exact b195 hy) | (with_reducible exact b164 hy) | (with_reducible exact b196 hy) | (with_reducible exact b182 hy) | (with_reducible exact b179 hy) | (with_reducible exact b172 hy) | (with_reducible exact b173 hy (by decide)) | (with_reducible exact b189 hn hy) | (with_reducible exact b190 hn hy _) | (with_reducible exact b178 hy) | (with_reducible exact bk_none) | (with_reducible exact bk_some LR_rf) | (with_reducible refine bk_ite (fun _ => ?_) (fun _ => ?_)) | (with_reducible refine bk_rdL ?_) | (with_reducible refine bk_zS LR_tr (LR_I ?_ ?_ ?_ ?_) ?_) | (with_reducible refine bk_zS LR_tr (LR_J ?_ ?_) ?_) | (with_reducible refine bk_zV ?_) | (with_reducible refine bk_y0 LR_tr ?_ (fun _ => ?_)) | (with_reducible refine bk_y1 LR_tr ?_ (fun _ _ => ?_)) | (with_reducible exact bk_pu pu_167 _) | (with_reducible exact bk_pu pu_177 _) | (with_reducible refine bk_pu (pu_170 hn ?_) _) | (with_reducible exact bk_pu (pu_175 hn) _) | (omega) | (decide))
  unfold f198
  refine bk_rdL (bk_ite (fun _ => bk_zS LR_tr (LR_I (by omega) (by omega) (by omega) (by omega)) ?_) (fun _ => bk_none))
  generalize sI t (y + 15) (nx x) 1 = t
  intro b e
  cases h : f189 n 10 t with
  | none => rw [h] at e; cases e
  | some w =>
    obtain ⟨v, u⟩ := w
    have hl : LR np y tz t u := b189 hn hy (v, u) h
    rw [h, yb1_s] at e
    by_cases hx : zin? x 200 = true
    · rw [if_pos hx] at e
      have hw : LR np y tz u (sI u (y + 17) (nx x) v) := LR_I (by omega) (by omega) (by omega) (by omega)
      simp (disch := omega) only [zlet] at e
      by_cases h0 : u.1 1132 9 = 0
      · rw [m_goes (show (sI u (y + 17) (nx x) v).1 1132 9 = 0 by rw [hIo (by omega)]; exact h0), yb1_s, if_neg (by decide)] at e
        cases h2 : f177 n 91 (sI u (y + 17) (nx x) v) with
        | none => rw [h2] at e; cases e
        | some w2 =>
          obtain ⟨v2, u2⟩ := w2
          have := pu_177 _ v2 u2 h2
          subst this
          rw [h2, yb1_s] at e
          by_cases hv : v2 = 0
          · rw [if_pos hv] at e
            exact LR_tr _ _ _ (LR_tr _ _ _ hl hw) (h120 _ b e)
          · rw [if_neg hv] at e
            by_cases hz : zin? v 1400 = true
            · rw [if_pos hz, if_pos hx] at e
              refine LR_tr _ _ _ (LR_tr _ _ _ (LR_use2 (w := 1) hn hy h h0) (LR_I (a := y + 17) (k := nx x) (v := v) (by omega) (by omega) (by omega) (by omega))) ?_
              rw [sI_comm (by omega : y + 17 ≠ y + 31)] at e
              revert e
              show _ → LR np y tz _ ((fun u : zσ => u) b)
              revert b
              show bk (fun u => u) (LR np y tz) _ _
              have k2 : bk (fun u => u) (LR np y tz) (zlet (sI (sI (sI u (y + 31) (nx v) 1) (y + 17) (nx x) v) (y + 15) (nx x) 2) fun u11 => yb0 (f182 n u11) fun u12 => yb1 (f167 n u12) fun v14 u13 => if v14 = (0 : Int32) then f198_99 n x y u13 else yb0 (f164 n u13) fun u15 => yb1 (f190 n u15) fun v17 u16 => if zin? ((4 : Int32) * x) 800 = true then zlet (sI u16 (y + 22) (nx ((4 : Int32) * x)) v17) fun u18 => yb0 (f179 n (93 : Int32) u18) fun u19 => zlet (sI u19 1132 14 ((u19.1 1132 14) - (1 : Int32))) fun u20 => f198_99 n x y u20 else none) (sI (sI u (y + 31) (nx v) 1) (y + 17) (nx x) v) := by
                repeat' (first | (with_reducible exact h99 _) | (with_reducible exact b182 hy) | (with_reducible exact b164 hy) | (with_reducible exact b190 hn hy _) | (with_reducible exact b179 hy) | (with_reducible exact b195 hy) | (with_reducible exact b164 hy) | (with_reducible exact b196 hy) | (with_reducible exact b182 hy) | (with_reducible exact b179 hy) | (with_reducible exact b172 hy) | (with_reducible exact b173 hy (by decide)) | (with_reducible exact b189 hn hy) | (with_reducible exact b190 hn hy _) | (with_reducible exact b178 hy) | (with_reducible exact bk_none) | (with_reducible exact bk_some LR_rf) | (with_reducible refine bk_ite (fun _ => ?_) (fun _ => ?_)) | (with_reducible refine bk_rdL ?_) | (with_reducible refine bk_zS LR_tr (LR_I ?_ ?_ ?_ ?_) ?_) | (with_reducible refine bk_zS LR_tr (LR_J ?_ ?_) ?_) | (with_reducible refine bk_zV ?_) | (with_reducible refine bk_y0 LR_tr ?_ (fun _ => ?_)) | (with_reducible refine bk_y1 LR_tr ?_ (fun _ _ => ?_)) | (with_reducible exact bk_pu pu_167 _) | (with_reducible exact bk_pu pu_177 _) | (with_reducible refine bk_pu (pu_170 hn ?_) _) | (with_reducible exact bk_pu (pu_175 hn) _) | (omega) | (decide))
              exact k2
            · rw [if_neg hz] at e; cases e
      · rw [m_goes0 (show ¬ (sI u (y + 17) (nx x) v).1 1132 9 = 0 by rw [hIo (by omega)]; exact h0), yb1_s, if_pos rfl] at e
        exact LR_tr _ _ _ (LR_tr _ _ _ hl hw) (h120 _ b e)
    · rw [if_neg hx] at e; cases e
end ZPG
