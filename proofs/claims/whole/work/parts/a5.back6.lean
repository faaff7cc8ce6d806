/-! from behind: statements, blocks, declarations, the rest -/
section ZPH
variable {np y n : Nat} {tz : zσ} {g : zσ → Option (Int32 × zσ)}
theorem b201 {x w : Int32} (hn : 5000 ≤ n) (hy : y = 1134 ∨ y = 1170) (hg : ∀ t, bk (fun u => u.2) (LR np y tz) (g t) t) (t : zσ) : bk (fun u => u) (LR np y tz) (f201 n g x w t) t := by
  have h147 : ∀ (t : zσ), bk (fun u => u) (LR np y tz) (f201_147 n g x w y t) t := by
    intro t
    unfold f201_147
    repeat' (first | (with_reducible exact hg _) | (with_reducible exact b164 hy) | (with_reducible exact b190 hn hy _) | (with_reducible exact bk_none) | (with_reducible exact bk_some LR_rf) | (with_reducible refine bk_ite (fun _ => ?_) (fun _ => ?_)) | (with_reducible refine bk_rdL ?_) | (with_reducible refine bk_zS LR_tr (LR_I ?_ ?_ ?_ ?_) ?_) | (with_reducible refine bk_zS LR_tr (LR_J ?_ ?_) ?_) | (with_reducible refine bk_zV ?_) | (with_reducible refine bk_y0 LR_tr ?_ (fun _ => ?_)) | (with_reducible refine bk_y1 LR_tr ?_ (fun _ _ => ?_)) | (with_reducible exact bk_pu pu_167 _) | (with_reducible exact bk_pu pu_177 _) | (with_reducible refine bk_pu (pu_170 hn ?_) _) | (with_reducible exact bk_pu (pu_175 hn) _) | (omega) | (decide))
  have h132 : ∀ (t : zσ), bk (fun u => u) (LR np y tz) (f201_132 n g x y t) t := by
    intro t
    unfold f201_132
    repeat' (first | (with_reducible exact b190 hn hy _) | (with_reducible exact bk_none) | (with_reducible exact bk_some LR_rf) | (with_reducible refine bk_ite (fun _ => ?_) (fun _ => ?_)) | (with_reducible refine bk_rdL ?_) | (with_reducible refine bk_zS LR_tr (LR_I ?_ ?_ ?_ ?_) ?_) | (with_reducible refine bk_zS LR_tr (LR_J ?_ ?_) ?_) | (with_reducible refine bk_zV ?_) | (with_reducible refine bk_y0 LR_tr ?_ (fun _ => ?_)) | (with_reducible refine bk_y1 LR_tr ?_ (fun _ _ => ?_)) | (with_reducible exact bk_pu pu_167 _) | (with_reducible exact bk_pu pu_177 _) | (with_reducible refine bk_pu (pu_170 hn ?_) _) | (with_reducible exact bk_pu (pu_175 hn) _) | (omega) | (decide))
  have h281 : ∀ (t : zσ), bk (fun u => u) (LR np y tz) (f201_281 n g x y t) t := by
    intro t
    unfold f201_281
    repeat' (first | (with_reducible exact b189 hn hy) | (with_reducible exact bk_none) | (with_reducible exact bk_some LR_rf) | (with_reducible refine bk_ite (fun _ => ?_) (fun _ => ?_)) | (with_reducible refine bk_rdL ?_) | (with_reducible refine bk_zS LR_tr (LR_I ?_ ?_ ?_ ?_) ?_) | (with_reducible refine bk_zS LR_tr (LR_J ?_ ?_) ?_) | (with_reducible refine bk_zV ?_) | (with_reducible refine bk_y0 LR_tr ?_ (fun _ => ?_)) | (with_reducible refine bk_y1 LR_tr ?_ (fun _ _ => ?_)) | (with_reducible exact bk_pu pu_167 _) | (with_reducible exact bk_pu pu_177 _) | (with_reducible refine bk_pu (pu_170 hn ?_) _) | (with_reducible exact bk_pu (pu_175 hn) _) | (omega) | (decide))
  have h328 : ∀ (t : zσ), bk (fun u => u) (LR np y tz) (f201_328 n g x y t) t := by
    intro t
    unfold f201_328
    repeat' (first | (with_reducible exact b189 hn hy) | (with_reducible exact bk_none) | (with_reducible exact bk_some LR_rf) | (with_reducible refine bk_ite (fun _ => ?_) (fun _ => ?_)) | (with_reducible refine bk_rdL ?_) | (with_reducible refine bk_zS LR_tr (LR_I ?_ ?_ ?_ ?_) ?_) | (with_reducible refine bk_zS LR_tr (LR_J ?_ ?_) ?_) | (with_reducible refine bk_zV ?_) | (with_reducible refine bk_y0 LR_tr ?_ (fun _ => ?_)) | (with_reducible refine bk_y1 LR_tr ?_ (fun _ _ => ?_)) | (with_reducible exact bk_pu pu_167 _) | (with_reducible exact bk_pu pu_177 _) | (with_reducible refine bk_pu (pu_170 hn ?_) _) | (with_reducible exact bk_pu (pu_175 hn) _) | (omega) | (decide))
  have h422 : ∀ (t : zσ), bk (fun u => u) (LR np y tz) (f201_422 n g x y t) t := by
    intro t
    unfold f201_422
    repeat' (first | (with_reducible exact b189 hn hy) | (with_reducible exact bk_none) | (with_reducible exact bk_some LR_rf) | (with_reducible refine bk_ite (fun _ => ?_) (fun _ => ?_)) | (with_reducible refine bk_rdL ?_) | (with_reducible refine bk_zS LR_tr (LR_I ?_ ?_ ?_ ?_) ?_) | (with_reducible refine bk_zS LR_tr (LR_J ?_ ?_) ?_) | (with_reducible refine bk_zV ?_) | (with_reducible refine bk_y0 LR_tr ?_ (fun _ => ?_)) | (with_reducible refine bk_y1 LR_tr ?_ (fun _ _ => ?_)) | (with_reducible exact bk_pu pu_167 _) | (with_reducible exact bk_pu pu_177 _) | (with_reducible refine bk_pu (pu_170 hn ?_) _) | (with_reducible exact bk_pu (pu_175 hn) _) | (omega) | (decide))
  have h273 : ∀ (t : zσ), bk (fun u => u) (LR np y tz) (f201_273 n g x t) t := by
    intro t
    unfold f201_273
    repeat' (first | (with_reducible exact b202 hn hy _) | (with_reducible exact bk_none) | (with_reducible exact bk_some LR_rf) | (with_reducible refine bk_ite (fun _ => ?_) (fun _ => ?_)) | (with_reducible refine bk_rdL ?_) | (with_reducible refine bk_zS LR_tr (LR_I ?_ ?_ ?_ ?_) ?_) | (with_reducible refine bk_zS LR_tr (LR_J ?_ ?_) ?_) | (with_reducible refine bk_zV ?_) | (with_reducible refine bk_y0 LR_tr ?_ (fun _ => ?_)) | (with_reducible refine bk_y1 LR_tr ?_ (fun _ _ => ?_)) | (with_reducible exact bk_pu pu_167 _) | (with_reducible exact bk_pu pu_177 _) | (with_reducible refine bk_pu (pu_170 hn ?_) _) | (with_reducible exact bk_pu (pu_175 hn) _) | (omega) | (decide))
  unfold f201 f201_323 f201_324
  repeat' (first | (with_reducible exact h147 _) | (with_reducible exact h132 _) | (with_reducible exact h281 _) | (with_reducible exact h328 _) | (with_reducible exact h422 _) | (with_reducible exact h273 _) | (with_reducible exact b199 hn hy _) | (with_reducible exact b189 hn hy) | (with_reducible exact b190 hn hy _) | (with_reducible exact bk_none) | (with_reducible exact bk_some LR_rf) | (with_reducible refine bk_ite (fun _ => ?_) (fun _ => ?_)) | (with_reducible refine bk_rdL ?_) | (with_reducible refine bk_zS LR_tr (LR_I ?_ ?_ ?_ ?_) ?_) | (with_reducible refine bk_zS LR_tr (LR_J ?_ ?_) ?_) | (with_reducible refine bk_zV ?_) | (with_reducible refine bk_y0 LR_tr ?_ (fun _ => ?_)) | (with_reducible refine bk_y1 LR_tr ?_ (fun _ _ => ?_)) | (with_reducible exact bk_pu pu_167 _) | (with_reducible exact bk_pu pu_177 _) | (with_reducible refine bk_pu (pu_170 hn ?_) _) | (with_reducible exact bk_pu (pu_175 hn) _) | (omega) | (decide))
theorem b184 (hn : 5000 ≤ n) (hy : y = 1134 ∨ y = 1170) (hg : ∀ t, bk (fun u => u.2) (LR np y tz) (g t) t) (t : zσ) : bk (fun u => u.2) (LR np y tz) (f184 n g t) t := by
  have h215 : ∀ a b (t : zσ), bk (fun u => u.2) (LR np y tz) (f184_215 n g a b t) t := by
    intro a b t
    unfold f184_215
    repeat' (first | (with_reducible exact b179 hy) | (with_reducible exact bk_none) | (with_reducible exact bk_some LR_rf) | (with_reducible refine bk_ite (fun _ => ?_) (fun _ => ?_)) | (with_reducible refine bk_rdL ?_) | (with_reducible refine bk_zS LR_tr (LR_I ?_ ?_ ?_ ?_) ?_) | (with_reducible refine bk_zS LR_tr (LR_J ?_ ?_) ?_) | (with_reducible refine bk_zV ?_) | (with_reducible refine bk_y0 LR_tr ?_ (fun _ => ?_)) | (with_reducible refine bk_y1 LR_tr ?_ (fun _ _ => ?_)) | (with_reducible exact bk_pu pu_167 _) | (with_reducible exact bk_pu pu_177 _) | (with_reducible refine bk_pu (pu_170 hn ?_) _) | (with_reducible exact bk_pu (pu_175 hn) _) | (omega) | (decide))
  have h63 : ∀ a b c (t : zσ), bk (fun u => u.2) (LR np y tz) (f184_63 n g y a b c t) t := by
    intro a b c t
    unfold f184_63
    refine bk_ite (fun _ => ?_) (fun _ => bk_ite (fun _ => ?_) (fun _ => bk_zV ?_))
    · repeat' (first | (with_reducible exact b172 hy) | (with_reducible exact bk_none) | (with_reducible exact bk_some LR_rf) | (with_reducible refine bk_ite (fun _ => ?_) (fun _ => ?_)) | (with_reducible refine bk_rdL ?_) | (with_reducible refine bk_zS LR_tr (LR_I ?_ ?_ ?_ ?_) ?_) | (with_reducible refine bk_zS LR_tr (LR_J ?_ ?_) ?_) | (with_reducible refine bk_zV ?_) | (with_reducible refine bk_y0 LR_tr ?_ (fun _ => ?_)) | (with_reducible refine bk_y1 LR_tr ?_ (fun _ _ => ?_)) | (with_reducible exact bk_pu pu_167 _) | (with_reducible exact bk_pu pu_177 _) | (with_reducible refine bk_pu (pu_170 hn ?_) _) | (with_reducible exact bk_pu (pu_175 hn) _) | (omega) | (decide))
    · repeat' (first | (with_reducible refine b173 hy ?_) | (with_reducible exact bk_none) | (with_reducible exact bk_some LR_rf) | (with_reducible refine bk_ite (fun _ => ?_) (fun _ => ?_)) | (with_reducible refine bk_rdL ?_) | (with_reducible refine bk_zS LR_tr (LR_I ?_ ?_ ?_ ?_) ?_) | (with_reducible refine bk_zS LR_tr (LR_J ?_ ?_) ?_) | (with_reducible refine bk_zV ?_) | (with_reducible refine bk_y0 LR_tr ?_ (fun _ => ?_)) | (with_reducible refine bk_y1 LR_tr ?_ (fun _ _ => ?_)) | (with_reducible exact bk_pu pu_167 _) | (with_reducible exact bk_pu pu_177 _) | (with_reducible refine bk_pu (pu_170 hn ?_) _) | (with_reducible exact bk_pu (pu_175 hn) _) | (omega) | (decide))
    · by_cases hz : zin? (t.1 y 16) 200 = true
      · obtain ⟨na, c1, c2, c3⟩ := zin_ex hz
        refine bk_zS LR_tr (by rw [c3, nI_1]; exact LR_16 hy (Or.inl ⟨rfl, rfl⟩) c1 c3) ?_
        repeat' (first | (with_reducible exact h215 _ _ _) | (with_reducible exact b198 hn hy _) | (with_reducible exact b164 hy) | (with_reducible exact b201 hn hy hg _) | (with_reducible exact b188 hn hy _) | (with_reducible exact bk_none) | (with_reducible exact bk_some LR_rf) | (with_reducible refine bk_ite (fun _ => ?_) (fun _ => ?_)) | (with_reducible refine bk_rdL ?_) | (with_reducible refine bk_zS LR_tr (LR_I ?_ ?_ ?_ ?_) ?_) | (with_reducible refine bk_zS LR_tr (LR_J ?_ ?_) ?_) | (with_reducible refine bk_zV ?_) | (with_reducible refine bk_y0 LR_tr ?_ (fun _ => ?_)) | (with_reducible refine bk_y1 LR_tr ?_ (fun _ _ => ?_)) | (with_reducible exact bk_pu pu_167 _) | (with_reducible exact bk_pu pu_177 _) | (with_reducible refine bk_pu (pu_170 hn ?_) _) | (with_reducible exact bk_pu (pu_175 hn) _) | (omega) | (decide))
      · intro b e
        simp only [zlet, if_neg hz] at e
        cases e
  unfold f184 f184_29 f184_62 f184_58
  repeat' (first | (with_reducible exact h63 _ _ _ _) | (with_reducible exact bk_pu (pu_185 hn) _) | (with_reducible exact bk_pu (pu_186 hn) _) | (with_reducible exact bk_none) | (with_reducible exact bk_some LR_rf) | (with_reducible refine bk_ite (fun _ => ?_) (fun _ => ?_)) | (with_reducible refine bk_rdL ?_) | (with_reducible refine bk_zS LR_tr (LR_I ?_ ?_ ?_ ?_) ?_) | (with_reducible refine bk_zS LR_tr (LR_J ?_ ?_) ?_) | (with_reducible refine bk_zV ?_) | (with_reducible refine bk_y0 LR_tr ?_ (fun _ => ?_)) | (with_reducible refine bk_y1 LR_tr ?_ (fun _ _ => ?_)) | (with_reducible exact bk_pu pu_167 _) | (with_reducible exact bk_pu pu_177 _) | (with_reducible refine bk_pu (pu_170 hn ?_) _) | (with_reducible exact bk_pu (pu_175 hn) _) | (omega) | (decide))
theorem b183 {x : Int32} (hn : 5000 ≤ n) (hy : y = 1134 ∨ y = 1170) (hg : ∀ t, bk (fun u => u.2) (LR np y tz) (g t) t) (t : zσ) : bk (fun u => u) (LR np y tz) (f183 n g x t) t := by
  have h56 : ∀ a (t : zσ), bk (fun u => u) (LR np y tz) (f183_56 n g x a t) t := by
    intro a t
    unfold f183_56
    repeat' (first | (with_reducible exact hg _) | (with_reducible exact b164 hy) | (with_reducible refine b173 hy ?_) | (with_reducible exact bk_none) | (with_reducible exact bk_some LR_rf) | (with_reducible refine bk_ite (fun _ => ?_) (fun _ => ?_)) | (with_reducible refine bk_rdL ?_) | (with_reducible refine bk_zS LR_tr (LR_I ?_ ?_ ?_ ?_) ?_) | (with_reducible refine bk_zS LR_tr (LR_J ?_ ?_) ?_) | (with_reducible refine bk_zV ?_) | (with_reducible refine bk_y0 LR_tr ?_ (fun _ => ?_)) | (with_reducible refine bk_y1 LR_tr ?_ (fun _ _ => ?_)) | (with_reducible exact bk_pu pu_167 _) | (with_reducible exact bk_pu pu_177 _) | (with_reducible refine bk_pu (pu_170 hn ?_) _) | (with_reducible exact bk_pu (pu_175 hn) _) | (omega) | (decide))
  unfold f183 f183_41
  repeat' (first | (with_reducible exact h56 _ _) | (with_reducible exact b172 hy) | (with_reducible refine b173 hy ?_) | (with_reducible exact bk_none) | (with_reducible exact bk_some LR_rf) | (with_reducible refine bk_ite (fun _ => ?_) (fun _ => ?_)) | (with_reducible refine bk_rdL ?_) | (with_reducible refine bk_zS LR_tr (LR_I ?_ ?_ ?_ ?_) ?_) | (with_reducible refine bk_zS LR_tr (LR_J ?_ ?_) ?_) | (with_reducible refine bk_zV ?_) | (with_reducible refine bk_y0 LR_tr ?_ (fun _ => ?_)) | (with_reducible refine bk_y1 LR_tr ?_ (fun _ _ => ?_)) | (with_reducible exact bk_pu pu_167 _) | (with_reducible exact bk_pu pu_177 _) | (with_reducible refine bk_pu (pu_170 hn ?_) _) | (with_reducible exact bk_pu (pu_175 hn) _) | (omega) | (decide))
theorem b181b (hn : 5000 ≤ n) (hy : y = 1134 ∨ y = 1170) (hg : ∀ t, bk (fun u => u.2) (LR np y tz) (g t) t) (t : zσ) : bk (fun u => u.2) (LR np y tz) (f181b n g t) t := by
  have h182 : ∀ a (t : zσ), bk (fun u => u.2) (LR np y tz) (f181_182 n g a t) t := by
    intro a t
    unfold f181_182
    repeat' (first | (with_reducible exact b179 hy) | (with_reducible exact bk_none) | (with_reducible exact bk_some LR_rf) | (with_reducible refine bk_ite (fun _ => ?_) (fun _ => ?_)) | (with_reducible refine bk_rdL ?_) | (with_reducible refine bk_zS LR_tr (LR_I ?_ ?_ ?_ ?_) ?_) | (with_reducible refine bk_zS LR_tr (LR_J ?_ ?_) ?_) | (with_reducible refine bk_zV ?_) | (with_reducible refine bk_y0 LR_tr ?_ (fun _ => ?_)) | (with_reducible refine bk_y1 LR_tr ?_ (fun _ _ => ?_)) | (with_reducible exact bk_pu pu_167 _) | (with_reducible exact bk_pu pu_177 _) | (with_reducible refine bk_pu (pu_170 hn ?_) _) | (with_reducible exact bk_pu (pu_175 hn) _) | (omega) | (decide))
  have h123 : ∀ j a b (t : zσ), bk (fun u => u.2) (LR np y tz) (f181_123 n g j y a b t) t := by
    intro j
    induction j with
    | zero => exact fun _ _ _ => bk_none
    | succ j ih =>
      intro a b t
      unfold f181_123 f181_179 f181_176 f181_179
      repeat' (first | (with_reducible exact ih _ _ _) | (with_reducible exact h182 _ _) | (with_reducible exact b184 hn hy hg _) | (with_reducible exact bk_none) | (with_reducible exact bk_some LR_rf) | (with_reducible refine bk_ite (fun _ => ?_) (fun _ => ?_)) | (with_reducible refine bk_rdL ?_) | (with_reducible refine bk_zS LR_tr (LR_I ?_ ?_ ?_ ?_) ?_) | (with_reducible refine bk_zS LR_tr (LR_J ?_ ?_) ?_) | (with_reducible refine bk_zV ?_) | (with_reducible refine bk_y0 LR_tr ?_ (fun _ => ?_)) | (with_reducible refine bk_y1 LR_tr ?_ (fun _ _ => ?_)) | (with_reducible exact bk_pu pu_167 _) | (with_reducible exact bk_pu pu_177 _) | (with_reducible refine bk_pu (pu_170 hn ?_) _) | (with_reducible exact bk_pu (pu_175 hn) _) | (omega) | (decide))
  have h92 : ∀ j a (t : zσ), bk (fun u => u.2) (LR np y tz) (f181_92 n g j y a t) t := by
    intro j
    induction j with
    | zero => exact fun _ _ => bk_none
    | succ j ih =>
      intro a t
      unfold f181_92 f181_121
      repeat' (first | (with_reducible exact ih _ _) | (with_reducible exact h123 _ _ _ _) | (with_reducible exact b183 hn hy hg _) | (with_reducible exact b164 hy) | (with_reducible exact bk_none) | (with_reducible exact bk_some LR_rf) | (with_reducible refine bk_ite (fun _ => ?_) (fun _ => ?_)) | (with_reducible refine bk_rdL ?_) | (with_reducible refine bk_zS LR_tr (LR_I ?_ ?_ ?_ ?_) ?_) | (with_reducible refine bk_zS LR_tr (LR_J ?_ ?_) ?_) | (with_reducible refine bk_zV ?_) | (with_reducible refine bk_y0 LR_tr ?_ (fun _ => ?_)) | (with_reducible refine bk_y1 LR_tr ?_ (fun _ _ => ?_)) | (with_reducible exact bk_pu pu_167 _) | (with_reducible exact bk_pu pu_177 _) | (with_reducible refine bk_pu (pu_170 hn ?_) _) | (with_reducible exact bk_pu (pu_175 hn) _) | (omega) | (decide))
  have h57 : ∀ j a b (t : zσ), bk (fun u => u.2) (LR np y tz) (f181_57 n g j y a b t) t := by
    intro j
    induction j with
    | zero => exact fun _ _ _ => bk_none
    | succ j ih =>
      intro a b t
      unfold f181_57
      repeat' (first | (with_reducible exact ih _ _ _) | (with_reducible exact h92 _ _ _) | (with_reducible exact b164 hy) | (with_reducible exact bk_none) | (with_reducible exact bk_some LR_rf) | (with_reducible refine bk_ite (fun _ => ?_) (fun _ => ?_)) | (with_reducible refine bk_rdL ?_) | (with_reducible refine bk_zS LR_tr (LR_I ?_ ?_ ?_ ?_) ?_) | (with_reducible refine bk_zS LR_tr (LR_J ?_ ?_) ?_) | (with_reducible refine bk_zV ?_) | (with_reducible refine bk_y0 LR_tr ?_ (fun _ => ?_)) | (with_reducible refine bk_y1 LR_tr ?_ (fun _ _ => ?_)) | (with_reducible exact bk_pu pu_167 _) | (with_reducible exact bk_pu pu_177 _) | (with_reducible refine bk_pu (pu_170 hn ?_) _) | (with_reducible exact bk_pu (pu_175 hn) _) | (omega) | (decide))
  unfold f181b
  refine bk_y1 LR_tr (bk_pu pu_167 _) (fun v u => bk_ite (fun _ => bk_some LR_rf) (fun _ => bk_y1 LR_tr (bk_pu pu_177 _) (fun v2 u2 => bk_ite (fun _ => bk_y0 LR_tr (b172 hy) (fun _ => bk_some LR_rf)) (fun _ => bk_y0 LR_tr (b182 hy) (fun u5 => bk_rdL (bk_zV ?_))))))
  by_cases hz : zin? (u5.1 y 13) 2000 = true
  · obtain ⟨na, c1, c2, c3⟩ := zin_ex hz
    refine bk_zS LR_tr (by rw [c3, nI_1]; exact LR_16 hy (Or.inr ⟨rfl, rfl⟩) c1 c3) ?_
    repeat' (first | (with_reducible exact h57 _ _ _ _) | (with_reducible exact bk_none) | (with_reducible exact bk_some LR_rf) | (with_reducible refine bk_ite (fun _ => ?_) (fun _ => ?_)) | (with_reducible refine bk_rdL ?_) | (with_reducible refine bk_zS LR_tr (LR_I ?_ ?_ ?_ ?_) ?_) | (with_reducible refine bk_zS LR_tr (LR_J ?_ ?_) ?_) | (with_reducible refine bk_zV ?_) | (with_reducible refine bk_y0 LR_tr ?_ (fun _ => ?_)) | (with_reducible refine bk_y1 LR_tr ?_ (fun _ _ => ?_)) | (with_reducible exact bk_pu pu_167 _) | (with_reducible exact bk_pu pu_177 _) | (with_reducible refine bk_pu (pu_170 hn ?_) _) | (with_reducible exact bk_pu (pu_175 hn) _) | (omega) | (decide))
  · intro b e
    simp only [zlet, if_neg hz] at e
    cases e
theorem b181 (hn : 5000 ≤ n) (hy : y = 1134 ∨ y = 1170) : ∀ (k : Nat) (t : zσ), bk (fun u => u.2) (LR np y tz) (f181 n k t) t
  | 0, _ => bk_none
  | k + 1, t => b181b hn hy (b181 hn hy k) t
theorem b174 {x : Int32} (hn : 5000 ≤ n) (hy : y = 1134 ∨ y = 1170) (t : zσ) : bk (fun u => u.2) (LR np y tz) (f174 n x t) t := by
  have h86 : ∀ j a (t : zσ), bk (fun u => u.2) (LR np y tz) (f174_86 n j x y a t) t := by
    intro j
    induction j with
    | zero => exact fun _ _ => bk_none
    | succ j ih =>
      intro a t
      unfold f174_86
      repeat' (first | (with_reducible exact ih _ _) | (with_reducible refine b173 hy ?_) | (with_reducible exact b164 hy) | (with_reducible exact bk_none) | (with_reducible exact bk_some LR_rf) | (with_reducible refine bk_ite (fun _ => ?_) (fun _ => ?_)) | (with_reducible refine bk_rdL ?_) | (with_reducible refine bk_zS LR_tr (LR_I ?_ ?_ ?_ ?_) ?_) | (with_reducible refine bk_zS LR_tr (LR_J ?_ ?_) ?_) | (with_reducible refine bk_zV ?_) | (with_reducible refine bk_y0 LR_tr ?_ (fun _ => ?_)) | (with_reducible refine bk_y1 LR_tr ?_ (fun _ _ => ?_)) | (with_reducible exact bk_pu pu_167 _) | (with_reducible exact bk_pu pu_177 _) | (with_reducible refine bk_pu (pu_170 hn ?_) _) | (with_reducible exact bk_pu (pu_175 hn) _) | (omega) | (decide))
  have h61 : ∀ a (t : zσ), bk (fun u => u.2) (LR np y tz) (f174_61 n x y a t) t := by
    intro a t
    unfold f174_61
    repeat' (first | (with_reducible exact h86 _ _ _) | (with_reducible refine b173 hy ?_) | (with_reducible exact bk_none) | (with_reducible exact bk_some LR_rf) | (with_reducible refine bk_ite (fun _ => ?_) (fun _ => ?_)) | (with_reducible refine bk_rdL ?_) | (with_reducible refine bk_zS LR_tr (LR_I ?_ ?_ ?_ ?_) ?_) | (with_reducible refine bk_zS LR_tr (LR_J ?_ ?_) ?_) | (with_reducible refine bk_zV ?_) | (with_reducible refine bk_y0 LR_tr ?_ (fun _ => ?_)) | (with_reducible refine bk_y1 LR_tr ?_ (fun _ _ => ?_)) | (with_reducible exact bk_pu pu_167 _) | (with_reducible exact bk_pu pu_177 _) | (with_reducible refine bk_pu (pu_170 hn ?_) _) | (with_reducible exact bk_pu (pu_175 hn) _) | (omega) | (decide))
  unfold f174 f174_38
  repeat' (first | (with_reducible exact h61 _ _) | (with_reducible exact b172 hy) | (with_reducible exact bk_none) | (with_reducible exact bk_some LR_rf) | (with_reducible refine bk_ite (fun _ => ?_) (fun _ => ?_)) | (with_reducible refine bk_rdL ?_) | (with_reducible refine bk_zS LR_tr (LR_I ?_ ?_ ?_ ?_) ?_) | (with_reducible refine bk_zS LR_tr (LR_J ?_ ?_) ?_) | (with_reducible refine bk_zV ?_) | (with_reducible refine bk_y0 LR_tr ?_ (fun _ => ?_)) | (with_reducible refine bk_y1 LR_tr ?_ (fun _ _ => ?_)) | (with_reducible exact bk_pu pu_167 _) | (with_reducible exact bk_pu pu_177 _) | (with_reducible refine bk_pu (pu_170 hn ?_) _) | (with_reducible exact bk_pu (pu_175 hn) _) | (omega) | (decide))
theorem b180 {p : Nat} (hn : 5000 ≤ n) (hy : y = 1134 ∨ y = 1170) (hp : np ≤ p) (hp6 : p < 6) (t : zσ) : bk (fun u => u) (LR np y tz) (f180 n (nI p) t) t := by
  have h65 : ∀ (r : Int32 → Nat → Int32 → Int32 → zσ → Option zσ) (a : Int32), (∀ b (t : zσ), bk (fun u => u) (LR np y tz) (r (nI p) y (a + 1) b t) t) → zin? a 4 = true → ∀ j b (t : zσ), bk (fun u => u) (LR np y tz) (f180_65 n r j (nI p) y a b t) t := by
    intro r a hr ha j
    obtain ⟨q, q1, q2, rfl⟩ := zin_ex ha
    have e : nx ((3 : Int32) * nI p + nI q) = 3 * p + q := by rw [nLmul, naddN]; exact nxN (by omega)
    induction j with
    | zero => exact fun _ _ => bk_none
    | succ j ih =>
      intro b t
      unfold f180_65
      rw [e]
      repeat' (first | (with_reducible exact hr _ _) | (with_reducible exact ih _ _) | (with_reducible refine b173 hy ?_) | (with_reducible exact b164 hy) | (with_reducible exact bk_none) | (with_reducible exact bk_some LR_rf) | (with_reducible refine bk_ite (fun _ => ?_) (fun _ => ?_)) | (with_reducible refine bk_rdL ?_) | (with_reducible refine bk_zS LR_tr (LR_I ?_ ?_ ?_ ?_) ?_) | (with_reducible refine bk_zS LR_tr (LR_J ?_ ?_) ?_) | (with_reducible refine bk_zV ?_) | (with_reducible refine bk_y0 LR_tr ?_ (fun _ => ?_)) | (with_reducible refine bk_y1 LR_tr ?_ (fun _ _ => ?_)) | (with_reducible exact bk_pu pu_167 _) | (with_reducible exact bk_pu pu_177 _) | (with_reducible refine bk_pu (pu_170 hn ?_) _) | (with_reducible exact bk_pu (pu_175 hn) _) | (omega) | (decide))
  have h30 : ∀ j a b (t : zσ), zin? a 4 = true → bk (fun u => u) (LR np y tz) (f180_30 n j (nI p) y a b t) t := by
    intro j
    induction j with
    | zero => exact fun _ _ _ _ => bk_none
    | succ j ih =>
      intro a b t ha
      have en : nx (nI p) = p := nxN (by omega)
      unfold f180_30
      rw [en]
      by_cases h3 : a = 3
      · simp only [if_pos h3]
        repeat' (first | (with_reducible exact b172 hy) | (with_reducible refine b173 hy ?_) | (with_reducible exact bk_none) | (with_reducible exact bk_some LR_rf) | (with_reducible refine bk_ite (fun _ => ?_) (fun _ => ?_)) | (with_reducible refine bk_rdL ?_) | (with_reducible refine bk_zS LR_tr (LR_I ?_ ?_ ?_ ?_) ?_) | (with_reducible refine bk_zS LR_tr (LR_J ?_ ?_) ?_) | (with_reducible refine bk_zV ?_) | (with_reducible refine bk_y0 LR_tr ?_ (fun _ => ?_)) | (with_reducible refine bk_y1 LR_tr ?_ (fun _ _ => ?_)) | (with_reducible exact bk_pu pu_167 _) | (with_reducible exact bk_pu pu_177 _) | (with_reducible refine bk_pu (pu_170 hn ?_) _) | (with_reducible exact bk_pu (pu_175 hn) _) | (omega) | (decide))
      · simp only [if_neg h3]
        obtain ⟨q, q1, q2, rfl⟩ := zin_ex ha
        have hq : q < 3 := by
          have : q ≠ 3 := fun e => h3 (by rw [e]; rfl)
          omega
        have hz : zin? (nI q + 1) 4 = true := by rw [nI_1]; exact (zinN (by omega)).mpr (by omega)
        repeat' (first | (with_reducible exact h65 _ _ (fun b t => ih _ b t hz) ha _ _ _) | (with_reducible exact b172 hy) | (with_reducible exact bk_none) | (with_reducible exact bk_some LR_rf) | (with_reducible refine bk_ite (fun _ => ?_) (fun _ => ?_)) | (with_reducible refine bk_rdL ?_) | (with_reducible refine bk_zS LR_tr (LR_I ?_ ?_ ?_ ?_) ?_) | (with_reducible refine bk_zS LR_tr (LR_J ?_ ?_) ?_) | (with_reducible refine bk_zV ?_) | (with_reducible refine bk_y0 LR_tr ?_ (fun _ => ?_)) | (with_reducible refine bk_y1 LR_tr ?_ (fun _ _ => ?_)) | (with_reducible exact bk_pu pu_167 _) | (with_reducible exact bk_pu pu_177 _) | (with_reducible refine bk_pu (pu_170 hn ?_) _) | (with_reducible exact bk_pu (pu_175 hn) _) | (omega) | (decide))
  unfold f180 f180_27 f180_28
  repeat' (first | (with_reducible exact h30 _ _ _ _ (by decide)) | (with_reducible exact bk_none) | (with_reducible exact bk_some LR_rf) | (with_reducible refine bk_ite (fun _ => ?_) (fun _ => ?_)) | (with_reducible refine bk_rdL ?_) | (with_reducible refine bk_zS LR_tr (LR_I ?_ ?_ ?_ ?_) ?_) | (with_reducible refine bk_zS LR_tr (LR_J ?_ ?_) ?_) | (with_reducible refine bk_zV ?_) | (with_reducible refine bk_y0 LR_tr ?_ (fun _ => ?_)) | (with_reducible refine bk_y1 LR_tr ?_ (fun _ _ => ?_)) | (with_reducible exact bk_pu pu_167 _) | (with_reducible exact bk_pu pu_177 _) | (with_reducible refine bk_pu (pu_170 hn ?_) _) | (with_reducible exact bk_pu (pu_175 hn) _) | (omega) | (decide))
end ZPH
