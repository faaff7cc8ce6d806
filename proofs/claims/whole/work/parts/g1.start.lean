/-! the starts of the passes -/
section ZSA
variable {U : Nat → Nat} {len x y n K np : Nat} {s0 t0 tz s t s2 t2 : zσ} {G : Nat → Nat → Nat}
/-- the class begins a pass -/
theorem c_start (hn : 5000 ≤ n) (hx : x = 1060 ∨ x = 1096) (hT : txC U len s) (hw : wdC s) (h5 : s.2.2 1004 5 = some (x + 19)) (h6 : s.2.2 1004 6 = some (x + 29)) : ∃ s2, f23 n s = some s2 ∧ TC U len (zsk U len 0) s2 ∧ (∀ a, a ≠ 1001 → a ≠ 1004 → a ≠ 1005 → a ≠ x + 19 → a ≠ x + 29 → s2.1 a = s.1 a) ∧ (∀ a, a ≠ 1001 → s2.2.1 a = s.2.1 a) ∧ s2.2.2 = s.2.2 ∧ (s2.1 1004 9 = 0 ∧ s2.1 1004 8 = 0 ∧ s2.1 1004 3 = 0) ∧ (∀ k, k ≠ 3 → k ≠ 8 → k ≠ 9 → s2.1 1004 k = s.1 1004 k) ∧ (s2.1 (x + 19) 9 = 0 ∧ s2.1 (x + 19) 10 = 0 ∧ s2.1 (x + 19) 11 = 0) ∧ s2.1 (x + 29) 6 = 0 ∧ (∀ c, c < 9 → s2.1 1005 c = 0) := by
  obtain ⟨u, hu⟩ : ∃ u, u = sI (sI (sI (sF (sI (sI (sI (sI s (x + 19) 9 0) (x + 19) 10 0) (x + 19) 11 0) (x + 29) 6 0) 1005 0 9 0) 1004 9 0) 1004 8 0) 1004 3 0 := ⟨_, rfl⟩
  have hr : u.2 = s.2 := by rw [hu]; rfl
  have hf : ∀ a, a ≠ 1004 → a ≠ 1005 → a ≠ x + 19 → a ≠ x + 29 → u.1 a = s.1 a := fun a p1 p2 p3 p4 => by
    rw [hu]; funext k
    rw [hIo p1, hIo p1, hIo p1, gF, if_neg (fun e => p2 e.1), hIo p4, hIo p3, hIo p3, hIo p3]
  have h4 : u.1 1004 9 = 0 ∧ u.1 1004 8 = 0 ∧ u.1 1004 3 = 0 := by
    rw [hu]
    exact ⟨by rw [hIk (by decide), hIk (by decide), hIe], by rw [hIk (by decide), hIe], hIe⟩
  have h4k : ∀ k, k ≠ 3 → k ≠ 8 → k ≠ 9 → u.1 1004 k = s.1 1004 k := fun k p1 p2 p3 => by
    rw [hu, hIk p1, hIk p2, hIk p3, gF, if_neg (by omega), hIo (by omega), hIo (by omega), hIo (by omega), hIo (by omega)]
  have h19 : u.1 (x + 19) 9 = 0 ∧ u.1 (x + 19) 10 = 0 ∧ u.1 (x + 19) 11 = 0 := by
    rw [hu]
    refine ⟨?_, ?_, ?_⟩
    · rw [hIo (by omega), hIo (by omega), hIo (by omega), gF, if_neg (by omega), hIo (by omega), hIk (by decide), hIk (by decide), hIe]
    · rw [hIo (by omega), hIo (by omega), hIo (by omega), gF, if_neg (by omega), hIo (by omega), hIk (by decide), hIe]
    · rw [hIo (by omega), hIo (by omega), hIo (by omega), gF, if_neg (by omega), hIo (by omega), hIe]
  have h29 : u.1 (x + 29) 6 = 0 := by
    rw [hu, hIo (by omega), hIo (by omega), hIo (by omega), gF, if_neg (by omega), hIe]
  have h05 : ∀ c, c < 9 → u.1 1005 c = 0 := fun c hc => by
    rw [hu, hIo (by decide), hIo (by decide), hIo (by decide), gF, if_pos (by omega)]
  have e : f23 n s = (yb0 (yb0 (f26 n (sI (sI u 1001 3 0) 1001 4 3)) fun u9 => some u9) fun u9 => some u9) := by
    unfold f23
    rw [h5, grd (gck9 hx).2.1]
    show zrd 0 (s.2.2 1004 6) _ = _
    rw [h6, grd (gck9 hx).2.2, hu]
    rfl
  have hT2 : txC U len (sI (sI u 1001 3 0) 1001 4 3) := ⟨hT.1, by rw [hIk (by decide), hIk (by decide), hf 1001 (by omega) (by omega) (by omega) (by omega)]; exact hT.2.1, fun i hi => by rw [hIo (by decide), hIo (by decide), hf 1002 (by omega) (by omega) (by omega) (by omega)]; exact hT.2.2 i hi⟩
  have hw2 : wdC (sI (sI u 1001 3 0) 1001 4 3) := fun i hi => by
    show u.2.1 1003 i = _
    rw [hr]; exact hw i hi
  obtain ⟨w, w1, w2, w3, w4⟩ := TC_of (s2 := s) (p := 0) hn hT2 hw2 (by rw [hIe]; decide) (by rw [hIk (by decide), hIe]; rfl) (Nat.zero_le _)
  have g : ∀ b, b ≠ 1001 → w.1 b = u.1 b := fun b hb => by rw [(w3 b hb).1, hIo hb, hIo hb]
  refine ⟨w, by rw [e, w1]; rfl, w2, fun a p0 p1 p2 p3 p4 => (g a p0).trans (hf a p1 p2 p3 p4), fun a p0 => ?_, ?_, ?_, fun k p1 p2 p3 => ?_, ?_, ?_, fun c hc => ?_⟩
  · rw [(w3 a p0).2.1]
    show u.2.1 a = _
    rw [hr]
  · rw [w4]
    show u.2.2 = _
    rw [hr]
  · rw [g 1004 (by decide)]; exact h4
  · rw [g 1004 (by decide)]; exact h4k k p1 p2 p3
  · rw [g (x + 19) (by omega)]; exact h19
  · rw [g (x + 29) (by omega)]; exact h29
  · rw [g 1005 (by decide)]; exact h05 c hc
theorem sFp_0 {a i : Nat} {v : Int32} : sF s a i i v = s := by
  refine Prod.ext ?_ rfl
  funext b k
  rw [gF, if_neg (by omega)]
theorem sFp_s {a i h : Nat} {v : Int32} (hi : i < h) : sF (sI s a i v) a (i + 1) h v = sF s a i h v := by
  refine Prod.ext ?_ rfl
  funext b k
  rw [gF, gF, gI]
  by_cases e : b = a
  · by_cases e2 : k = i
    · subst e e2
      rw [if_neg (by omega), if_pos ⟨rfl, rfl⟩, if_pos ⟨rfl, Nat.le_refl _, hi⟩]
    · by_cases e3 : i ≤ k ∧ k < h
      · rw [if_pos ⟨e, by omega, e3.2⟩, if_pos ⟨e, e3⟩]
      · rw [if_neg (by omega), if_neg (by omega), if_neg (fun q => e3 q.2)]
  · rw [if_neg (fun q => e q.1), if_neg (fun q => e q.1), if_neg (fun q => e q.1)]
theorem m_42 : ∀ (d i j : Nat) (s : zσ), 9 - i ≤ d → i ≤ 9 → d < j → f163_42 n j y (nI i) s = (yb0 (f164 n (sI (sI (sI (sI (sF s (y + 4) i 9 0) 1132 9 0) 1132 14 0) 1132 15 (-1)) 1132 5 0)) fun u5 => f163_85 n n y u5) := by
  intro d
  induction d with
  | zero =>
    intro i j s hd hi hj
    obtain ⟨j, rfl⟩ : ∃ j0, j = j0 + 1 := ⟨j - 1, by omega⟩
    obtain rfl : i = 9 := by omega
    rw [f163_42, if_neg (show ¬ nI 9 < (9 : Int32) from by decide), sFp_0]
    rfl
  | succ d ih =>
    intro i j s hd hi hj
    obtain ⟨j, rfl⟩ : ∃ j0, j = j0 + 1 := ⟨j - 1, by omega⟩
    by_cases e : i = 9
    · subst e
      rw [f163_42, if_neg (show ¬ nI 9 < (9 : Int32) from by decide), sFp_0]
      rfl
    · rw [f163_42, if_pos (show nI i < (9 : Int32) from nI_lt (b := 9) (by omega) (by decide)), if_pos (zin_nI (by omega) (by decide)), nx_nI (by omega), nI_1]
      show f163_42 n j y (nI (i + 1)) (sI s (y + 4) i 0) = _
      rw [ih (i + 1) j _ (by omega) (by omega) (by omega), sFp_s (by omega)]
theorem c_286 : ∀ (d i j : Nat) (s : zσ), 8 - i ≤ d → i ≤ 8 → d < j → f286_34 n j x (nI i) s = some (sF (sF (sF (sF s (x + 15) i 8 0) (x + 16) 0 8 (-1)) (x + 17) 0 6 (-1)) (x + 18) 0 6 0) := by
  intro d
  induction d with
  | zero =>
    intro i j s hd hi hj
    obtain ⟨j, rfl⟩ : ∃ j0, j = j0 + 1 := ⟨j - 1, by omega⟩
    obtain rfl : i = 8 := by omega
    rw [f286_34, if_neg (show ¬ nI 8 < (8 : Int32) from by decide), sFp_0]
    rfl
  | succ d ih =>
    intro i j s hd hi hj
    obtain ⟨j, rfl⟩ : ∃ j0, j = j0 + 1 := ⟨j - 1, by omega⟩
    by_cases e : i = 8
    · subst e
      rw [f286_34, if_neg (show ¬ nI 8 < (8 : Int32) from by decide), sFp_0]
      rfl
    · rw [f286_34, if_pos (show nI i < (8 : Int32) from nI_lt (b := 8) (by omega) (by decide)), if_pos (zin_nI (by omega) (by decide)), nx_nI (by omega), nI_1, show vp_nar .boolean (0 : Int32) = 0 from by decide]
      show f286_34 n j x (nI (i + 1)) (sI s (x + 15) i 0) = _
      rw [ih (i + 1) j _ (by omega) (by omega) (by omega), sFp_s (by omega)]
/-- the reference begins -/
theorem m_start (hn : 5000 ≤ n) (hy : y = 1134 ∨ y = 1170) (hyt : t.2.2 1132 12 = some y) (hT : txM U len t) : ∃ t2, f163 n t = f163_85 n n y t2 ∧ TM U len (zsk U len 0) t2 ∧ (∀ a, a ≠ 1132 → a ≠ y → a ≠ y + 4 → t2.1 a = t.1 a) ∧ (∀ a, a ≠ 1132 → t2.2.1 a = t.2.1 a) ∧ t2.2.2 = t.2.2 ∧ (∀ k, k < 3 ∨ k = 13 ∨ 16 ≤ k → t2.1 1132 k = t.1 1132 k) ∧ (t2.1 y 0 = 0 ∧ t2.1 y 13 = 0 ∧ t2.1 y 16 = 0 ∧ t2.1 y 27 = 0 ∧ t2.1 y 28 = 0 ∧ t2.1 y 31 = 0 ∧ t2.1 y 34 = 0) ∧ (∀ c, c < 9 → t2.1 (y + 4) c = 0) ∧ (t2.1 1132 9 = 0 ∧ t2.1 1132 14 = 0 ∧ t2.1 1132 15 = -1) := by
  obtain ⟨u, hu⟩ : ∃ u, u = sI (sI (sI (sI (sI (sI (sI t y 0 0) y 13 0) y 16 0) y 27 0) y 28 0) y 31 0) y 34 0 := ⟨_, rfl⟩
  have hr : u.2 = t.2 := by rw [hu]; rfl
  have hf : ∀ a, a ≠ y → u.1 a = t.1 a := fun a p => by
    rw [hu, hIo p, hIo p, hIo p, hIo p, hIo p, hIo p, hIo p]
  have h7 : u.1 y 0 = 0 ∧ u.1 y 13 = 0 ∧ u.1 y 16 = 0 ∧ u.1 y 27 = 0 ∧ u.1 y 28 = 0 ∧ u.1 y 31 = 0 ∧ u.1 y 34 = 0 := by
    rw [hu]
    refine ⟨?_, ?_, ?_, ?_, ?_, ?_, hIe⟩
    · rw [hIk (by decide), hIk (by decide), hIk (by decide), hIk (by decide), hIk (by decide), hIk (by decide), hIe]
    · rw [hIk (by decide), hIk (by decide), hIk (by decide), hIk (by decide), hIk (by decide), hIe]
    · rw [hIk (by decide), hIk (by decide), hIk (by decide), hIk (by decide), hIe]
    · rw [hIk (by decide), hIk (by decide), hIk (by decide), hIe]
    · rw [hIk (by decide), hIk (by decide), hIe]
    · rw [hIk (by decide), hIe]
  have e : f163 n t = f163_42 n n y (nI 0) u := by
    unfold f163
    rw [hyt, grd (gck12 hy), hu]
    rfl
  rw [e, m_42 9 0 n u (by omega) (by omega) (by omega)]
  obtain ⟨w, hw⟩ : ∃ w, w = sI (sI (sI (sI (sF u (y + 4) 0 9 0) 1132 9 0) 1132 14 0) 1132 15 (-1)) 1132 5 0 := ⟨_, rfl⟩
  have wf : ∀ a, a ≠ 1132 → a ≠ y → a ≠ y + 4 → w.1 a = t.1 a := fun a p1 p2 p3 => by
    rw [hw]; funext k
    rw [hIo p1, hIo p1, hIo p1, hIo p1, gF, if_neg (fun q => p3 q.1), hf a p2]
  have wk : ∀ k, k ≠ 9 → k ≠ 14 → k ≠ 15 → k ≠ 5 → w.1 1132 k = t.1 1132 k := fun k p1 p2 p3 p4 => by
    rw [hw, hIk p4, hIk p3, hIk p2, hIk p1, gF, if_neg (by omega), hf 1132 (by omega)]
  have wy : ∀ k, w.1 y k = u.1 y k := fun k => by
    rw [hw, hIo (by omega), hIo (by omega), hIo (by omega), hIo (by omega), gF, if_neg (by omega)]
  have w4 : ∀ c, c < 9 → w.1 (y + 4) c = 0 := fun c hc => by
    rw [hw, hIo (by omega), hIo (by omega), hIo (by omega), hIo (by omega), gF, if_pos (by omega)]
  have w5 : w.1 1132 5 = nI 0 ∧ w.1 1132 9 = 0 ∧ w.1 1132 14 = 0 ∧ w.1 1132 15 = -1 := by
    rw [hw]
    exact ⟨hIe, by rw [hIk (by decide), hIk (by decide), hIk (by decide), hIe], by rw [hIk (by decide), hIk (by decide), hIe], by rw [hIk (by decide), hIe]⟩
  have wr : w.2 = t.2 := by rw [hw]; exact hr
  rw [← hw]
  clear hw
  have hTw : txM U len w := ⟨hT.1, (wk 1 (by decide) (by decide) (by decide) (by decide)).trans hT.2.1, fun i hi => by rw [wf 1133 (by decide) (by omega) (by omega)]; exact hT.2.2 i hi⟩
  obtain ⟨v, v1, v2, v3⟩ := TM_of hn hTw w5.1 (Nat.zero_le _)
  have g : ∀ b, b ≠ 1132 → v.1 b = w.1 b := fun b hb => (v3.1 b hb).1
  refine ⟨v, by rw [v1]; rfl, v2, fun a p1 p2 p3 => (g a p1).trans (wf a p1 p2 p3), fun a p1 => ((v3.1 a p1).2.1).trans (by rw [wr]), v3.2.2.2.trans (by rw [wr]), fun k hk => (v3.2.1 k (by omega) (by omega) (by omega) (by omega) (by omega)).trans (wk k (by omega) (by omega) (by omega) (by omega)), ?_, fun c hc => ?_, ?_, ?_, ?_⟩
  · rw [g y (by omega), wy, wy, wy, wy, wy, wy, wy]; exact h7
  · rw [g _ (by omega)]; exact w4 c hc
  · rw [v3.2.1 9 (by decide) (by decide) (by decide) (by decide) (by decide)]; exact w5.2.1
  · rw [v3.2.1 14 (by decide) (by decide) (by decide) (by decide) (by decide)]; exact w5.2.2.1
  · rw [v3.2.1 15 (by decide) (by decide) (by decide) (by decide) (by decide)]; exact w5.2.2.2
/-- the class begins -/
theorem c_begin (hn : 5000 ≤ n) (hx : x = 1060 ∨ x = 1096) : ∃ s2, f21 n x s = f21_37 n n 1 s2 ∧ (∀ a, a ≠ 1004 → (a < x + 11 ∨ x + 18 < a) → s2.1 a = s.1 a) ∧ s2.2.1 = s.2.1 ∧ (∀ a, a ≠ 1004 → s2.2.2 a = s.2.2 a) ∧ (s2.2.2 1004 4 = some x ∧ s2.2.2 1004 5 = some (x + 19) ∧ s2.2.2 1004 6 = some (x + 29)) ∧ (s2.1 1004 10 = 0 ∧ s2.1 1004 12 = -1) ∧ (∀ c, c < 9 → s2.1 (x + 11) c = 0) ∧ (∀ k, k < 4 → s2.1 (x + 13) k = 0) := by
  obtain ⟨u, hu⟩ : ∃ u, u = sI (sI (sR (sR (sR s 1004 4 (some x)) 1004 5 (some (x + 19))) 1004 6 (some (x + 29))) 1004 10 0) 1004 12 (-1) := ⟨_, rfl⟩
  have uf1 : ∀ a, a ≠ 1004 → u.1 a = s.1 a := fun a p => by
    rw [hu, hIo p, hIo p]; rfl
  have u4 : u.1 1004 10 = 0 ∧ u.1 1004 12 = -1 := by
    rw [hu]
    exact ⟨by rw [hIk (by decide), hIe], hIe⟩
  have ur : u.2.2 1004 4 = some x ∧ u.2.2 1004 5 = some (x + 19) ∧ u.2.2 1004 6 = some (x + 29) := by
    rw [hu]
    refine ⟨?_, ?_, ?_⟩
    · show (sR (sR (sR s 1004 4 (some x)) 1004 5 (some (x + 19))) 1004 6 (some (x + 29))).2.2 1004 4 = _
      rw [rRk (by decide), rRk (by decide), rRe]
    · show (sR (sR (sR s 1004 4 (some x)) 1004 5 (some (x + 19))) 1004 6 (some (x + 29))).2.2 1004 5 = _
      rw [rRk (by decide), rRe]
    · show (sR (sR (sR s 1004 4 (some x)) 1004 5 (some (x + 19))) 1004 6 (some (x + 29))).2.2 1004 6 = _
      rw [rRe]
  have ur2 : ∀ a, a ≠ 1004 → u.2.2 a = s.2.2 a := fun a p => by
    rw [hu]
    show (sR (sR (sR s 1004 4 (some x)) 1004 5 (some (x + 19))) 1004 6 (some (x + 29))).2.2 a = _
    rw [rRo p, rRo p, rRo p]
  have u21 : u.2.1 = s.2.1 := by rw [hu]; rfl
  have e : f21 n x s = yb0 (f286_34 n n x (nI 0) (sF (sF (sF (sF u (x + 11) 0 9 0) (x + 12) 0 8 0) (x + 13) 0 4 0) (x + 14) 0 8 0)) fun u6 => f21_37 n n 1 u6 := by
    rw [hu]; rfl
  clear hu
  rw [e, c_286 8 0 n _ (by omega) (by omega) (by omega)]
  obtain ⟨w, hw⟩ : ∃ w, w = sF (sF (sF (sF (sF (sF (sF (sF u (x + 11) 0 9 0) (x + 12) 0 8 0) (x + 13) 0 4 0) (x + 14) 0 8 0) (x + 15) 0 8 0) (x + 16) 0 8 (-1)) (x + 17) 0 6 (-1)) (x + 18) 0 6 0 := ⟨_, rfl⟩
  rw [← hw]
  have wf : ∀ a k, (a < x + 11 ∨ x + 18 < a) → w.1 a k = u.1 a k := fun a k p => by
    rw [hw, gF, if_neg (by omega), gF, if_neg (by omega), gF, if_neg (by omega), gF, if_neg (by omega), gF, if_neg (by omega), gF, if_neg (by omega), gF, if_neg (by omega), gF, if_neg (by omega)]
  refine ⟨w, rfl, fun a p1 p2 => ?_, ?_, fun a p => ?_, ?_, ?_, fun c hc => ?_, fun k hk => ?_⟩
  · funext k; rw [wf a k p2, uf1 a p1]
  · rw [hw]; exact u21
  · rw [hw]; exact ur2 a p
  · rw [hw]; exact ur
  · rw [wf _ _ (by omega), wf _ _ (by omega)]; exact u4
  · rw [hw, gF, if_neg (by omega), gF, if_neg (by omega), gF, if_neg (by omega), gF, if_neg (by omega), gF, if_neg (by omega), gF, if_neg (by omega), gF, if_neg (by omega), gF, if_pos (by omega)]
  · rw [hw, gF, if_neg (by omega), gF, if_neg (by omega), gF, if_neg (by omega), gF, if_neg (by omega), gF, if_neg (by omega), gF, if_pos (by omega)]
theorem txC_sI4 {k : Nat} {v : Int32} (h : txC U len s) : txC U len (sI s 1004 k v) := ⟨h.1, by rw [hIo (by decide)]; exact h.2.1, fun i hi => by rw [hIo (by decide)]; exact h.2.2 i hi⟩
/-- both readers at the start of a pass; s, t what they begin with -/
theorem DR_start (hn : 5000 ≤ n) (hS : S0 U len x y s0 t0) (hK : K ≤ 1) (hg : GFc x s0 s) (h2 : s.1 1001 2 = nI len) (h10 : s.1 1004 10 = 0) (h12 : s.1 1004 12 = -1) (h7 : s.1 1004 7 = nI K) (h13 : ∀ k, k < 4 → ∃ v, v ≤ 9 ∧ s.1 (x + 13) k = nI v) (h6 : ∀ k, k < 4 → ∃ v, v < 2 ^ 31 ∧ t0.1 (y + 6) k = nI v)
    (hc : f23 n s = some s2 ∧ TC U len (zsk U len 0) s2 ∧ (∀ a, a ≠ 1001 → a ≠ 1004 → a ≠ 1005 → a ≠ x + 19 → a ≠ x + 29 → s2.1 a = s.1 a) ∧ (∀ a, a ≠ 1001 → s2.2.1 a = s.2.1 a) ∧ s2.2.2 = s.2.2 ∧ (s2.1 1004 9 = 0 ∧ s2.1 1004 8 = 0 ∧ s2.1 1004 3 = 0) ∧ (∀ k, k ≠ 3 → k ≠ 8 → k ≠ 9 → s2.1 1004 k = s.1 1004 k) ∧ (s2.1 (x + 19) 9 = 0 ∧ s2.1 (x + 19) 10 = 0 ∧ s2.1 (x + 19) 11 = 0) ∧ s2.1 (x + 29) 6 = 0 ∧ (∀ c, c < 9 → s2.1 1005 c = 0))
    (hm : TM U len (zsk U len 0) t2 ∧ (∀ a, a ≠ 1132 → a ≠ y → a ≠ y + 4 → t2.1 a = t0.1 a) ∧ (∀ a, a ≠ 1132 → t2.2.1 a = t0.2.1 a) ∧ t2.2.2 = t0.2.2 ∧ (∀ k, k < 3 ∨ k = 13 ∨ 16 ≤ k → t2.1 1132 k = t0.1 1132 k) ∧ (t2.1 y 0 = 0 ∧ t2.1 y 13 = 0 ∧ t2.1 y 16 = 0 ∧ t2.1 y 27 = 0 ∧ t2.1 y 28 = 0 ∧ t2.1 y 31 = 0 ∧ t2.1 y 34 = 0) ∧ (∀ c, c < 9 → t2.1 (y + 4) c = 0) ∧ (t2.1 1132 9 = 0 ∧ t2.1 1132 14 = 0 ∧ t2.1 1132 15 = -1))
    (k0 : K = 0 → ∀ c, c < 9 → s.1 (x + 11) c = 0) (k1 : K = 1 → Lt 0 y t2 tz ∧ s.1 (x + 11) = s0.1 (x + 11) ∧ (∀ c, c < 9 → s.2.1 (x + 2 + c) = s0.2.1 (x + 2 + c)) ∧ (∀ p, p < G 6 7 → s.1 (x + 18) p = tz.1 (y + 11) p)) : DR U len x y s0 t0 K 0 tz G (fun _ => 0) 0 (zsk U len 0) 0 0 0 0 0 0 s2 t2 := by
  have hx := hS.1
  have hy := hS.2.1
  obtain ⟨-, c1, c2, c3, c4, ⟨c5, c6, c7⟩, c8, ⟨c9, c10, c11⟩, c12, c13⟩ := hc
  obtain ⟨m1, m2, m3, m4, m5, ⟨a1, a2, a3, a4, a5, a6, a7⟩, m7, m8, m9, m10⟩ := hm
  obtain ⟨g1, g2, g3⟩ := hg
  have z0 : nI 0 = (0 : Int32) := rfl
  have hE : ER U len x y s0 t0 K 0 tz G 0 (4 * 0) (zsk U len 0) 0 0 0 0 s2 t2 := by
    refine ⟨⟨⟨⟨fun a p1 p2 p3 p4 => ?_, fun a p1 p2 p3 => ?_, ?_⟩, c1.2.1.2.1, ⟨_, tkEnd_le c1.1, c1.2.2.2.2.1⟩, 0, by omega, c11⟩, c1, ?_⟩, ⟨⟨⟨fun a p1 p2 => ?_, fun a p1 p2 p3 p4 => ?_, m4, m5, fun k hk => ?_⟩, ?_⟩, m1, m8⟩, ?_, ⟨c5, m9, by omega⟩, ⟨c10, a4, by omega⟩, ⟨c11, a6, by omega⟩, ⟨a7, by omega⟩, fun e => ⟨(k1 e).1, fun u hu => by omega, ?_, fun c hc => ?_, Or.inl ⟨c7, m10⟩⟩⟩
    · rw [c2 a p1 p2 p3 (by omega) (by omega)]; exact g1 a p1 p2 p3 p4
    · rw [c3 a p1]; exact g2 a p1 p2 p3
    · rw [c4]; exact g3
    · rw [c8 10 (by decide) (by decide) (by decide)]; exact h10
    · exact m2 a p1 (by omega) (by omega)
    · exact m3 a p1
    · rw [m2 (y + 6) (by omega) (by omega) (by omega)]; exact h6 k hk
    · obtain ⟨p, p1, p2, -⟩ := m1.2.2.2.2.1
      exact ⟨p, p1, p2⟩
    · rw [c8 7 (by decide) (by decide) (by decide)]; exact h7
    · rw [c2 (x + 11) (by omega) (by omega) (by omega) (by omega) (by omega)]; exact (k1 e).2.1
    · rw [c3 _ (by omega)]; exact (k1 e).2.2.1 c hc
  have e12 : s2.1 1004 12 = -1 := (c8 12 (by decide) (by decide) (by decide)).trans h12
  refine ⟨⟨hE, ⟨c9, a3, by omega⟩, ⟨c12, a2, by omega⟩, ⟨a5, by omega⟩, Or.inl ⟨c6, m10⟩, ⟨fun _ => e12, fun _ => Or.inl ⟨e12, fun u hu => by omega⟩⟩, fun e p hp => ?_⟩, ⟨c7, m10, c6⟩, ⟨fun c hc => ⟨c13 c hc, m7 c hc, Nat.zero_le _⟩, by decide, ⟨a1, rfl⟩, fun e => ⟨fun c hc => ?_, fun k hk => absurd hk (Nat.not_lt_zero _), fun c i _ hi => absurd hi (Nat.not_lt_zero _), fun k j hk _ => absurd hk (Nat.not_lt_zero _)⟩⟩, ⟨fun k hk => absurd hk (Nat.not_lt_zero _), fun k hk => ⟨?_, fun hk2 => absurd hk2 (Nat.not_lt_zero _)⟩, fun k hk => absurd hk (Nat.not_lt_zero _), fun k hk => absurd hk (Nat.not_lt_zero _)⟩, fun _ _ => ⟨G, fun k => ⟨rfl, rfl, rfl, rfl⟩, fun b hb => absurd hb (Nat.not_lt_zero _), fun k hk => absurd hk (Nat.not_lt_zero _), fun k hk => absurd hk (Nat.not_lt_zero _), PD_0⟩⟩
  · rw [c2 (x + 18) (by omega) (by omega) (by omega) (by omega) (by omega)]; exact (k1 e).2.2.2 p hp
  · rw [c2 (x + 11) (by omega) (by omega) (by omega) (by omega) (by omega)]; exact k0 e c hc
  · rw [c2 (x + 13) (by omega) (by omega) (by omega) (by omega) (by omega)]; exact h13 k hk
end ZSA
