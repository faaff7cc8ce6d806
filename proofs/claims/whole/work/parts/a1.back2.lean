/-! the reference's reader, from behind -/
section ZPD
variable {np y n : Nat} {tz : zσ}
theorem frN_LR {t t2 : zσ} (hy : y = 1134 ∨ y = 1170) (h : frN t t2) : LR np y tz t t2 := by
  refine fun hp => ⟨by rw [h.2.2.2]; exact hp, ?_⟩
  have e : ∀ k, t2.1 (y + k) = t.1 (y + k) := fun k => (h.1 (y + k) (by omega)).1
  have ej : ∀ k, t2.2.1 (y + k) = t.2.1 (y + k) := fun k => (h.1 (y + k) (by omega)).2.1
  unfold Lt
  rw [e 25, e 26, e 27, e 28, e 30, e 31, e 32, e 11, ej 29, ej 12, h.2.1 9 (by decide) (by decide) (by decide) (by decide) (by decide), show t2.1 y = t.1 y from e 0]
  exact fun q => q
theorem pu_165 {c : Int32} : pu (f165 n c) := by
  intro t v t2 e
  unfold f165 at e
  split at e
  · cases e; rfl
  · split at e <;> (cases e; rfl)
theorem pu_166 {c : Int32} : pu (f166 n c) := by
  intro t v t2 e
  unfold f166 at e
  split at e
  · cases e; rfl
  · split at e <;> (cases e; rfl)
theorem bk_puF {g : zσ → Option (Int32 × zσ)} (h : pu g) (t : zσ) : bk (fun u => u.2) frN (g t) t := fun b e => by
  have : b.2 = t := h t b.1 b.2 e
  show frN t b.2
  rw [this]; exact frN_rf
theorem frN_tr3 : ∀ a b c : zσ, frN a b → frN b c → frN a c := fun _ _ _ => frN_tr
theorem fr_285 {x : Int32} {t : zσ} : bk (fun u => u) frN (f164_285 n x t) t := by
  unfold f164_285
  exact bk_zS frN_tr3 frN_5 (bk_some frN_rf)
theorem fr_236 {x : Int32} {t : zσ} : bk (fun u => u) frN (f164_236 n x t) t := by
  unfold f164_236 f164_253
  exact bk_ite (fun _ => bk_zS frN_tr3 frN_3 fr_285) (fun _ => bk_zS frN_tr3 frN_3 fr_285)
theorem fr_136 {x : Int32} {t : zσ} : bk (fun u => u) frN (f164_136 n x t) t := by
  unfold f164_136 f164_153
  exact bk_ite (fun _ => bk_zS frN_tr3 frN_3 fr_285) (fun _ => bk_zS frN_tr3 frN_3 fr_285)
theorem fr_171 : ∀ (j : Nat) (x : Int32) (t : zσ), bk (fun u => u) frN (f164_171 n j x t) t
  | 0, _, _ => bk_none
  | j + 1, x, t => by
    unfold f164_171
    refine bk_ite (fun _ => bk_ite (fun _ => bk_y1 frN_tr3 (bk_puF pu_166 _) (fun v u => ?_)) (fun _ => bk_none)) (fun _ => fr_236)
    refine bk_ite (fun _ => fr_236) (fun _ => bk_ite (fun _ => bk_ite (fun _ => ?_) (fun _ => bk_none)) (fun _ => ?_))
    · unfold f164_227; exact bk_zS frN_tr3 frN_7 (fr_171 j _ _)
    · unfold f164_227; exact bk_zS frN_tr3 frN_7 (fr_171 j _ _)
theorem fr_79 : ∀ (j : Nat) (x : Int32) (t : zσ), bk (fun u => u) frN (f164_79 n j x t) t
  | 0, _, _ => bk_none
  | j + 1, x, t => by
    have h111 : ∀ u : zσ, bk (fun u => u) frN (f164_111 n (f164_79 n j) x u) u := fun u => by
      unfold f164_111
      exact bk_ite (fun _ => bk_zS frN_tr3 frN_J (fr_79 j _ _)) (fun _ => bk_none)
    unfold f164_79
    refine bk_ite (fun _ => bk_ite (fun _ => bk_y1 frN_tr3 (bk_puF pu_165 _) (fun v u => ?_)) (fun _ => bk_none)) (fun _ => fr_136)
    refine bk_ite (fun _ => bk_ite (fun _ => bk_y1 frN_tr3 (bk_puF pu_166 _) (fun v u => ?_)) (fun _ => bk_none)) (fun _ => h111 u)
    exact bk_ite (fun _ => fr_136) (fun _ => h111 u)
theorem fr_41 {x : Int32} {t : zσ} : bk (fun u => u) frN (f164_41 n x t) t := by
  unfold f164_41
  refine bk_zS frN_tr3 frN_4 (bk_ite (fun _ => bk_zS frN_tr3 frN_3 (bk_some frN_rf)) (fun _ => bk_ite (fun _ => bk_zV (bk_y1 frN_tr3 (bk_puF pu_165 _) (fun v u => ?_))) (fun _ => bk_none)))
  refine bk_ite (fun _ => bk_y1 frN_tr3 (bk_puF pu_166 _) (fun v u => ?_)) (fun _ => bk_zS frN_tr3 frN_J (fr_79 _ _ _))
  refine bk_ite (fun _ => bk_ite (fun _ => ?_) (fun _ => ?_)) (fun _ => bk_zS frN_tr3 frN_7 (fr_171 _ _ _))
  · unfold f164_274; exact bk_zS frN_tr3 frN_3 (bk_zS frN_tr3 frN_8 fr_285)
  · unfold f164_274; exact bk_zS frN_tr3 frN_3 (bk_zS frN_tr3 frN_8 fr_285)
theorem fr_5 : ∀ (j : Nat) (x : Int32) (t : zσ), bk (fun u => u) frN (f164_5 n j x t) t
  | 0, _, _ => bk_none
  | j + 1, x, t => by
    unfold f164_5
    exact bk_ite (fun _ => bk_ite (fun _ => bk_ite (fun _ => fr_5 j _ _) (fun _ => bk_ite (fun _ => bk_ite (fun _ => fr_5 j _ _) (fun _ => fr_41)) (fun _ => bk_none))) (fun _ => bk_none)) (fun _ => fr_41)
theorem fr_164 {t : zσ} : bk (fun u => u) frN (f164 n t) t := by
  unfold f164
  exact bk_zV (fr_5 _ _ _)
theorem b164 {t : zσ} (hy : y = 1134 ∨ y = 1170) : bk (fun u => u) (LR np y tz) (f164 n t) t := fun b e => frN_LR hy (fr_164 b e)
theorem b173 {x z : Int32} {t : zσ} (hy : y = 1134 ∨ y = 1170) (hx : ¬ x = 0) : bk (fun u => u) (LR np y tz) (f173 n x z t) t := by
  unfold f173
  refine bk_ite (fun _ => ?_) (fun _ => bk_some LR_rf)
  refine fun b e => fun hp => ?_
  have e2 : b = sI (sI t 1132 9 x) 1132 10 z := by cases e; rfl
  subst e2
  refine ⟨hp, fun h => ?_⟩
  exfalso
  have := h.1
  rw [hIk (by decide), hIe] at this
  exact hx this
theorem b172 {t : zσ} (hy : y = 1134 ∨ y = 1170) : bk (fun u => u) (LR np y tz) (f172 n t) t := by
  unfold f172 f172_14
  repeat' (first | (with_reducible refine b173 hy ?_) | (with_reducible exact b195 hy) | (with_reducible exact b164 hy) | (with_reducible exact b196 hy) | (with_reducible exact b182 hy) | (with_reducible exact b179 hy) | (with_reducible exact b172 hy) | (with_reducible exact b173 hy (by decide)) | (with_reducible exact b189 hn hy) | (with_reducible exact b190 hn hy _) | (with_reducible exact b178 hy) | (with_reducible exact bk_none) | (with_reducible exact bk_some LR_rf) | (with_reducible refine bk_ite (fun _ => ?_) (fun _ => ?_)) | (with_reducible refine bk_rdL ?_) | (with_reducible refine bk_zS LR_tr (LR_I ?_ ?_ ?_ ?_) ?_) | (with_reducible refine bk_zS LR_tr (LR_J ?_ ?_) ?_) | (with_reducible refine bk_zV ?_) | (with_reducible refine bk_y0 LR_tr ?_ (fun _ => ?_)) | (with_reducible refine bk_y1 LR_tr ?_ (fun _ _ => ?_)) | (with_reducible exact bk_pu pu_167 _) | (with_reducible exact bk_pu pu_177 _) | (with_reducible refine bk_pu (pu_170 hn ?_) _) | (with_reducible exact bk_pu (pu_175 hn) _) | (omega) | (decide))
theorem b179 {c : Int32} {t : zσ} (hy : y = 1134 ∨ y = 1170) : bk (fun u => u) (LR np y tz) (f179 n c t) t := by
  unfold f179
  repeat' (first | (with_reducible exact b172 hy) | (with_reducible exact b164 hy) | (with_reducible exact b195 hy) | (with_reducible exact b164 hy) | (with_reducible exact b196 hy) | (with_reducible exact b182 hy) | (with_reducible exact b179 hy) | (with_reducible exact b172 hy) | (with_reducible exact b173 hy (by decide)) | (with_reducible exact b189 hn hy) | (with_reducible exact b190 hn hy _) | (with_reducible exact b178 hy) | (with_reducible exact bk_none) | (with_reducible exact bk_some LR_rf) | (with_reducible refine bk_ite (fun _ => ?_) (fun _ => ?_)) | (with_reducible refine bk_rdL ?_) | (with_reducible refine bk_zS LR_tr (LR_I ?_ ?_ ?_ ?_) ?_) | (with_reducible refine bk_zS LR_tr (LR_J ?_ ?_) ?_) | (with_reducible refine bk_zV ?_) | (with_reducible refine bk_y0 LR_tr ?_ (fun _ => ?_)) | (with_reducible refine bk_y1 LR_tr ?_ (fun _ _ => ?_)) | (with_reducible exact bk_pu pu_167 _) | (with_reducible exact bk_pu pu_177 _) | (with_reducible refine bk_pu (pu_170 hn ?_) _) | (with_reducible exact bk_pu (pu_175 hn) _) | (omega) | (decide))
theorem b182 {t : zσ} (hy : y = 1134 ∨ y = 1170) : bk (fun u => u) (LR np y tz) (f182 n t) t := by
  unfold f182 f182_25
  repeat' (first | (with_reducible refine b173 hy ?_) | (with_reducible exact b195 hy) | (with_reducible exact b164 hy) | (with_reducible exact b196 hy) | (with_reducible exact b182 hy) | (with_reducible exact b179 hy) | (with_reducible exact b172 hy) | (with_reducible exact b173 hy (by decide)) | (with_reducible exact b189 hn hy) | (with_reducible exact b190 hn hy _) | (with_reducible exact b178 hy) | (with_reducible exact bk_none) | (with_reducible exact bk_some LR_rf) | (with_reducible refine bk_ite (fun _ => ?_) (fun _ => ?_)) | (with_reducible refine bk_rdL ?_) | (with_reducible refine bk_zS LR_tr (LR_I ?_ ?_ ?_ ?_) ?_) | (with_reducible refine bk_zS LR_tr (LR_J ?_ ?_) ?_) | (with_reducible refine bk_zV ?_) | (with_reducible refine bk_y0 LR_tr ?_ (fun _ => ?_)) | (with_reducible refine bk_y1 LR_tr ?_ (fun _ _ => ?_)) | (with_reducible exact bk_pu pu_167 _) | (with_reducible exact bk_pu pu_177 _) | (with_reducible refine bk_pu (pu_170 hn ?_) _) | (with_reducible exact bk_pu (pu_175 hn) _) | (omega) | (decide))
theorem b195 {t : zσ} (hy : y = 1134 ∨ y = 1170) : bk (fun u => u) (LR np y tz) (f195 n t) t := by
  have h29 : ∀ u : zσ, bk (fun u => u) (LR np y tz) (f195_29 n u) u := fun u => by
    unfold f195_29 f195_49
    repeat' (first | (with_reducible exact b195 hy) | (with_reducible exact b164 hy) | (with_reducible exact b196 hy) | (with_reducible exact b182 hy) | (with_reducible exact b179 hy) | (with_reducible exact b172 hy) | (with_reducible exact b173 hy (by decide)) | (with_reducible exact b189 hn hy) | (with_reducible exact b190 hn hy _) | (with_reducible exact b178 hy) | (with_reducible exact bk_none) | (with_reducible exact bk_some LR_rf) | (with_reducible refine bk_ite (fun _ => ?_) (fun _ => ?_)) | (with_reducible refine bk_rdL ?_) | (with_reducible refine bk_zS LR_tr (LR_I ?_ ?_ ?_ ?_) ?_) | (with_reducible refine bk_zS LR_tr (LR_J ?_ ?_) ?_) | (with_reducible refine bk_zV ?_) | (with_reducible refine bk_y0 LR_tr ?_ (fun _ => ?_)) | (with_reducible refine bk_y1 LR_tr ?_ (fun _ _ => ?_)) | (with_reducible exact bk_pu pu_167 _) | (with_reducible exact bk_pu pu_177 _) | (with_reducible refine bk_pu (pu_170 hn ?_) _) | (with_reducible exact bk_pu (pu_175 hn) _) | (omega) | (decide))
  unfold f195
  repeat' (first | (with_reducible refine b173 hy ?_) | (with_reducible exact h29 _) | (with_reducible exact b195 hy) | (with_reducible exact b164 hy) | (with_reducible exact b196 hy) | (with_reducible exact b182 hy) | (with_reducible exact b179 hy) | (with_reducible exact b172 hy) | (with_reducible exact b173 hy (by decide)) | (with_reducible exact b189 hn hy) | (with_reducible exact b190 hn hy _) | (with_reducible exact b178 hy) | (with_reducible exact bk_none) | (with_reducible exact bk_some LR_rf) | (with_reducible refine bk_ite (fun _ => ?_) (fun _ => ?_)) | (with_reducible refine bk_rdL ?_) | (with_reducible refine bk_zS LR_tr (LR_I ?_ ?_ ?_ ?_) ?_) | (with_reducible refine bk_zS LR_tr (LR_J ?_ ?_) ?_) | (with_reducible refine bk_zV ?_) | (with_reducible refine bk_y0 LR_tr ?_ (fun _ => ?_)) | (with_reducible refine bk_y1 LR_tr ?_ (fun _ _ => ?_)) | (with_reducible exact bk_pu pu_167 _) | (with_reducible exact bk_pu pu_177 _) | (with_reducible refine bk_pu (pu_170 hn ?_) _) | (with_reducible exact bk_pu (pu_175 hn) _) | (omega) | (decide))
theorem b178 {a c : Int32} {t : zσ} (hy : y = 1134 ∨ y = 1170) : bk (fun u => u.2) (LR np y tz) (f178 n a c t) t := by
  unfold f178 f178_39 f178_48
  repeat' (first | (with_reducible exact b172 hy) | (with_reducible exact b164 hy) | (with_reducible refine b173 hy ?_) | (with_reducible exact b195 hy) | (with_reducible exact b164 hy) | (with_reducible exact b196 hy) | (with_reducible exact b182 hy) | (with_reducible exact b179 hy) | (with_reducible exact b172 hy) | (with_reducible exact b173 hy (by decide)) | (with_reducible exact b189 hn hy) | (with_reducible exact b190 hn hy _) | (with_reducible exact b178 hy) | (with_reducible exact bk_none) | (with_reducible exact bk_some LR_rf) | (with_reducible refine bk_ite (fun _ => ?_) (fun _ => ?_)) | (with_reducible refine bk_rdL ?_) | (with_reducible refine bk_zS LR_tr (LR_I ?_ ?_ ?_ ?_) ?_) | (with_reducible refine bk_zS LR_tr (LR_J ?_ ?_) ?_) | (with_reducible refine bk_zV ?_) | (with_reducible refine bk_y0 LR_tr ?_ (fun _ => ?_)) | (with_reducible refine bk_y1 LR_tr ?_ (fun _ _ => ?_)) | (with_reducible exact bk_pu pu_167 _) | (with_reducible exact bk_pu pu_177 _) | (with_reducible refine bk_pu (pu_170 hn ?_) _) | (with_reducible exact bk_pu (pu_175 hn) _) | (omega) | (decide))
end ZPD
