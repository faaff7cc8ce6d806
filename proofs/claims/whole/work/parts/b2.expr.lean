/-! expressions, both readers: terms, sums, comparisons -/
section ZPQ
variable {U : Nat → Nat} {len x y n K np bl ub q dp nd cd us q2 dp2 nd2 cd2 us2 : Nat} {s0 t0 tz s t s2 t2 : zσ} {G : Nat → Nat → Nat}
theorem tC_fr {p : Nat} (h1 : s2.1 (x + 27) p = s.1 (x + 27) p) (h2 : s2.1 (x + 28) p = s.1 (x + 28) p) (h : tC G x y bl p s t) : tC G x y bl p s2 t := by
  unfold tC at *
  rw [h1, h2]; exact h
theorem sg_fr {i j h0 hm : Nat} (e : ∀ p, p < j → s2.1 (x + 27) p = s.1 (x + 27) p ∧ s2.1 (x + 28) p = s.1 (x + 28) p) (h : sg G x y bl s t i j h0 hm) : sg G x y bl s2 t i j h0 hm := by
  obtain ⟨h1, f, h2, h3, h4⟩ := h
  exact ⟨h1, f, h2, h3, fun p a b => ⟨(h4 p a b).1, tC_fr (e p b).1 (e p b).2 (h4 p a b).2⟩⟩
theorem hW_up {hm hm2 p a b : Nat} (hl : hm ≤ hm2) (h1 : hW G hm p a b) : hW G hm2 p a b := ⟨Nat.le_trans h1.1 hl, Nat.le_trans h1.2.1 hl, h1.2.2⟩
theorem sg_up {i j h0 hm hm2 : Nat} (hl : hm ≤ hm2) (h : sg G x y bl s t i j h0 hm) : sg G x y bl s t i j h0 hm2 := by
  obtain ⟨h1, f, h2, h3, h4⟩ := h
  exact ⟨h1, f, h2, h3, fun p a b => ⟨hW_up hl (h4 p a b).1, (h4 p a b).2⟩⟩
theorem sg_one {p : Nat} (h : G 13 p = 0 ∨ G 13 p = 1 ∨ G 13 p = 3 ∨ G 13 p = 4 ∨ G 13 p = 5) (hc : tC G x y bl p s t) : sg G x y bl s t p (p + 1) 0 1 := by
  obtain ⟨F, hF⟩ : ∃ F : Nat → Nat, ∀ k, F k = k - p := ⟨fun k => k - p, fun _ => rfl⟩
  refine ⟨by omega, F, by rw [hF]; omega, by rw [hF]; omega, fun k a b => ?_⟩
  have e : k = p := by omega
  subst e
  rw [hF, hF]
  refine ⟨⟨by omega, by omega, fun h2 => ?_, fun h2 => ?_, fun _ => by omega⟩, hc⟩
  · exfalso; omega
  · exfalso; omega
theorem sg_un {i j hm : Nat} (h : G 13 j = 2 ∨ G 13 j = 6) (h1 : sg G x y bl s t i j 0 hm) (hc : tC G x y bl j s t) : sg G x y bl s t i (j + 1) 0 hm := by
  obtain ⟨h1, f, h2, h3, h4⟩ := h1
  obtain ⟨F, hF1, hF2⟩ : ∃ F : Nat → Nat, (∀ k, k ≤ j → F k = f k) ∧ (∀ k, j < k → F k = 1) := ⟨fun k => if k ≤ j then f k else 1, fun k h => if_pos h, fun k h => if_neg (by omega)⟩
  refine ⟨by omega, F, by rw [hF1 i (by omega)]; exact h2, by rw [hF2 _ (by omega)], fun p a b => ?_⟩
  by_cases e : p < j
  · obtain ⟨w, c⟩ := h4 p a e
    exact ⟨by rw [hF1 p (by omega), hF1 (p + 1) (by omega)]; exact w, c⟩
  · have e2 : p = j := by omega
    subst e2
    have hb := (h4 (p - 1) (by omega) (by omega)).1.2.1
    rw [show p - 1 + 1 = p by omega] at hb
    refine ⟨?_, hc⟩
    rw [hF1 p (by omega), hF2 (p + 1) (by omega), h3]
    refine ⟨by omega, by omega, fun _ => ⟨by omega, rfl⟩, fun h2 => ?_, fun h2 => ?_⟩
    · exfalso; omega
    · exfalso; omega
theorem sg_op {i j k hm hm1 hm2 : Nat} (h : G 13 k = 7) (l1 : hm ≤ hm2) (l2 : hm1 + 1 ≤ hm2) (h1 : sg G x y bl s t i j 0 hm) (h2 : sg G x y bl s t j k 0 hm1) (hc : tC G x y bl k s t) : sg G x y bl s t i (k + 1) 0 hm2 := by
  obtain ⟨a1, f, a2, a3, a4⟩ := h1
  obtain ⟨b1, g, b2, b3, b4⟩ := h2
  obtain ⟨F, hF1, hF2, hF3⟩ : ∃ F : Nat → Nat, (∀ p, p ≤ j → F p = f p) ∧ (∀ p, j ≤ p → p ≤ k → F p = g p + 1) ∧ (∀ p, k < p → F p = 1) := by
    refine ⟨fun p => if p ≤ j then f p else if p ≤ k then g p + 1 else 1, fun p h => if_pos h, fun p h1 h2 => ?_, fun p h => ?_⟩
    · by_cases e : p = j
      · subst e; simp only [if_pos (Nat.le_refl p)]; omega
      · simp only [if_neg (show ¬ p ≤ j by omega), if_pos h2]
    · simp only [if_neg (show ¬ p ≤ j by omega), if_neg (show ¬ p ≤ k by omega)]
  refine ⟨by omega, F, by rw [hF1 i (by omega)]; exact a2, by rw [hF3 _ (by omega)], fun p c d => ?_⟩
  by_cases e : p < j
  · obtain ⟨w, c⟩ := a4 p c e
    exact ⟨by rw [hF1 p (by omega), hF1 (p + 1) (by omega)]; exact hW_up l1 w, c⟩
  · by_cases e2 : p < k
    · obtain ⟨w, c⟩ := b4 p (by omega) e2
      refine ⟨?_, c⟩
      rw [hF2 p (by omega) (by omega), hF2 (p + 1) (by omega) (by omega)]
      obtain ⟨w1, w2, w3, w4, w5⟩ := w
      refine ⟨by omega, by omega, fun h => ?_, fun h => ?_, fun h => ?_⟩
      · have := w3 h; omega
      · have := w4 h; omega
      · have := w5 h; omega
    · have e3 : p = k := by omega
      subst e3
      have hb := (b4 (p - 1) (by omega) (by omega)).1.2.1
      rw [show p - 1 + 1 = p by omega] at hb
      refine ⟨?_, hc⟩
      rw [hF2 p (by omega) (by omega), hF3 (p + 1) (by omega), b3]
      refine ⟨by omega, by omega, fun h2 => ?_, fun _ => ⟨by omega, rfl⟩, fun h2 => ?_⟩
      · exfalso; omega
      · exfalso; omega
theorem m_sgn {c : Nat} (hc : zsg c = true) (hc2 : c < 126) (h : ER U len x y s0 t0 K np tz G bl ub q dp nd cd us s t) (e : tkKind U len q = nI c) : t.1 1132 8 = nI c := by
  obtain ⟨hq, hU, -⟩ := ER_q h
  obtain ⟨hlt, rfl⟩ := (tk_byte hU hq hc hc2).mp e
  have hnl : ¬ zltU (U q) = true ∧ ¬ zfgU (U q) = true := by
    have : ∀ u : Fin 256, zsg u.1 = true → ¬ zltU u.1 = true ∧ ¬ zfgU u.1 = true := by decide +kernel
    exact this ⟨U q, by omega⟩ hc
  exact h.2.1.2.1.2.2.2.2.2.2.2 hlt hnl.1 hnl.2
/-- a sign between two operands: what both have of it -/
theorem tk_sg {c : Nat} (hc : zsg c = true) (hc2 : c < 126) (h : ER U len x y s0 t0 K np tz G bl ub q dp nd cd us s t) (e : tkKind U len q = nI c) : q < len ∧ ¬ tkKind U len q = 0 := by
  obtain ⟨hq, hU, -⟩ := ER_q h
  refine ⟨((tk_byte hU hq hc hc2).mp e).1, fun e0 => ?_⟩
  have := (nIe (u := c) (k := 0) (by omega) (by decide)).mp (e.symm.trans e0)
  have := zsg_b hc (by omega)
  omega
theorem tC_7 {p c : Nat} (hQ : HQ n U len x y s0 t0 K tz G ub) (hc : c = 43 ∨ c = 45 ∨ c = 42 ∨ c = 47 ∨ c = 37 ∨ c = 61 ∨ c = 60 ∨ c = 62) (h1 : s.1 (x + 27) p = nI c) (h2 : tz.1 (y + 27) p = 7) (h3 : tz.1 (y + 28) p = nI c) : G 13 p = 7 ∧ tC G x y bl p s (tzMp tz y) := by
  have hg : G 13 p = 7 := by rw [hQ.2.2.2.1 p, h2]; rfl
  refine ⟨hg, ?_, Or.inr (Or.inr (Or.inr (Or.inr (Or.inr (Or.inr (Or.inr ⟨hg, ?_, ?_⟩))))))⟩
  · rw [tzM_o (by omega) (by omega), h2, hg]; rfl
  · rw [tzM_o (by omega) (by omega), h1, h3]
  · rw [h1]
    rcases hc with rfl | rfl | rfl | rfl | rfl | rfl | rfl | rfl
    · exact Or.inl rfl
    · exact Or.inr (Or.inl rfl)
    · exact Or.inr (Or.inr (Or.inl rfl))
    · exact Or.inr (Or.inr (Or.inr (Or.inl rfl)))
    · exact Or.inr (Or.inr (Or.inr (Or.inr (Or.inl rfl))))
    · exact Or.inr (Or.inr (Or.inr (Or.inr (Or.inr (Or.inl rfl)))))
    · exact Or.inr (Or.inr (Or.inr (Or.inr (Or.inr (Or.inr (Or.inl rfl))))))
    · exact Or.inr (Or.inr (Or.inr (Or.inr (Or.inr (Or.inr (Or.inr rfl))))))
/-- behind a sign: the second operand is there, then the code of the sign -/
theorem EP_op {hm hm1 hm2 c : Nat} {q0 nd0 cd0 us0 q3 nd3 cd3 us3 : Nat} {sS tS s1 t1 s3 t3 s4 t4 : zσ} (hQ : HQ n U len x y s0 t0 K tz G ub) (l1 : hm ≤ hm2) (l2 : hm1 + 1 ≤ hm2) (hc : c = 43 ∨ c = 45 ∨ c = 42 ∨ c = 47 ∨ c = 37 ∨ c = 61 ∨ c = 60 ∨ c = 62) (h0 : EP U len x y s0 t0 K np tz G bl ub hm q0 dp nd0 cd0 us0 sS tS q nd cd us s t) (hql : q < len) (h1 : EN U len x y s0 t0 K np tz G bl ub cd us (tkNx U len q) dp (nd + 1) cd us s t s1 t1) (h2 : EP U len x y s0 t0 K np tz G bl ub hm1 (tkNx U len q) dp (nd + 1) cd us s1 t1 q3 nd3 cd3 us3 s3 t3) (h3 : EN U len x y s0 t0 K np tz G bl ub cd3 us3 q3 dp nd3 (cd3 + 1) us3 s3 t3 s4 t4) (h4 : K = 1 → s4.1 (x + 27) cd3 = nI c ∧ s4.1 (x + 28) cd3 = 0 ∧ tz.1 (y + 27) cd3 = 7 ∧ tz.1 (y + 28) cd3 = nI c) : EP U len x y s0 t0 K np tz G bl ub hm2 q0 dp nd0 cd0 us0 sS tS q3 nd3 (cd3 + 1) us3 s4 t4 := by
  obtain ⟨⟨a1, a2⟩, ⟨a3, a4, a5, a6, a7⟩, ⟨a8, a9⟩, a10⟩ := h0
  obtain ⟨⟨b1, b2⟩, ⟨b3, b4, b5, b6, b7⟩, ⟨b8, b9⟩, b10⟩ := h2
  have hgt := tkNx_gt (U := U) hql
  refine ⟨⟨by omega, a2.elim (fun h => Or.inl (by omega)) Or.inr⟩, ⟨by omega, by omega, by omega, by omega, by omega⟩, ⟨EC_tr (EC_tr (EC_tr a8 h1.1 (by omega) (by omega)) b8 (by omega) (by omega)) h3.1 (by omega) (by omega), h3.2⟩, fun hK => ?_⟩
  obtain ⟨c1, c2, c3, c4⟩ := h4 hK
  obtain ⟨g7, gC⟩ := tC_7 (G := G) (x := x) (bl := bl) hQ hc c1 c3 c4
  have f1 := h1.1.2.2.1 hK
  have f2 := b8.2.2.1 hK
  have f3 := h3.1.2.2.1 hK
  refine sg_op g7 l1 l2 (j := cd) (sg_fr (fun p hp => ?_) (a10 hK)) (sg_fr (fun p hp => f3 p hp) (b10 hK)) gC
  exact ⟨((f3 p (by omega)).1.trans (f2 p hp).1).trans (f1 p hp).1, ((f3 p (by omega)).2.trans (f2 p hp).2).trans (f1 p hp).2⟩
theorem EP_up {hm hm2 : Nat} {q0 nd0 cd0 us0 : Nat} {sS tS : zσ} (l : hm ≤ hm2) (h : EP U len x y s0 t0 K np tz G bl ub hm q0 dp nd0 cd0 us0 sS tS q nd cd us s t) : EP U len x y s0 t0 K np tz G bl ub hm2 q0 dp nd0 cd0 us0 sS tS q nd cd us s t := ⟨h.1, h.2.1, h.2.2.1, fun hK => sg_up l (h.2.2.2 hK)⟩
/-! term -/
theorem lb51 {g : zσ → Option zσ} (hn : 5000 ≤ n) (hy : y = 1134 ∨ y = 1170) (hg : ∀ t, bk (fun u => u) (LR np y tz) (g t) t) : ∀ (j : Nat) (t : zσ), bk (fun u => u) (LR np y tz) (f193_4 n g j t) t
  | 0, _ => bk_none
  | j + 1, t => by
    unfold f193_4 f193_38
    repeat' (first | (with_reducible exact lb51 hn hy hg j _) | (with_reducible exact hg _) | (with_reducible exact b195 hy) | (with_reducible exact b164 hy) | (with_reducible exact b196 hy) | (with_reducible exact b182 hy) | (with_reducible exact b179 hy) | (with_reducible exact b172 hy) | (with_reducible exact b173 hy (by decide)) | (with_reducible exact b189 hn hy) | (with_reducible exact b190 hn hy _) | (with_reducible exact b178 hy) | (with_reducible exact bk_none) | (with_reducible exact bk_some LR_rf) | (with_reducible refine bk_ite (fun _ => ?_) (fun _ => ?_)) | (with_reducible refine bk_rdL ?_) | (with_reducible refine bk_zS LR_tr (LR_I ?_ ?_ ?_ ?_) ?_) | (with_reducible refine bk_zS LR_tr (LR_J ?_ ?_) ?_) | (with_reducible refine bk_zV ?_) | (with_reducible refine bk_y0 LR_tr ?_ (fun _ => ?_)) | (with_reducible refine bk_y1 LR_tr ?_ (fun _ _ => ?_)) | (with_reducible exact bk_pu pu_167 _) | (with_reducible exact bk_pu pu_177 _) | (with_reducible refine bk_pu (pu_170 hn ?_) _) | (with_reducible exact bk_pu (pu_175 hn) _) | (omega) | (decide))
theorem lf51 {g : zσ → Option zσ} {f z j : Nat} {i : Int32} (h : FC len x s0 f z s) : fw (FC len x s0 f z) (f51_6 n g (j + 1) i s) := by
  rw [f51_6, if_neg (fc_k h (by decide)), if_neg (fc_k h (by decide)), if_neg (fc_k h (by decide))]
  exact fw_i (fun _ => fw_some h) (fun _ => fw_some h)
theorem lm51 {g : zσ → Option zσ} {f z j : Nat} (h : FM len y t0 f z t) : fw (FM len y t0 f z) (f193_4 n g (j + 1) t) := by
  rw [f193_4, m_goes0 (fm_ne h)]
  exact fw_some h
theorem ch51 {g : zσ → Option zσ} {j i : Nat} (h : ER U len x y s0 t0 K np tz G bl ub q dp nd cd us s t) : ((tkKind U len q = 42 ∨ tkKind U len q = 47 ∨ tkKind U len q = 37) → i < 4000 → f51_6 n g (j + 1) (nI i) s = f51_49 n g (f51_6 n g j) (nI i) s) ∧ (¬ (tkKind U len q = 42 ∨ tkKind U len q = 47 ∨ tkKind U len q = 37) → f51_6 n g (j + 1) (nI i) s = some s) := by
  rw [f51_6, ER_k h]
  constructor
  · intro hk hi
    rw [if_pos (show nI i < 4000 from nI_lt (b := 4000) hi (by decide))]
    rcases hk with e | e | e
    · rw [if_pos e]
    · rw [if_neg (show ¬ tkKind U len q = 42 by rw [e]; decide), if_pos e]
    · rw [if_neg (show ¬ tkKind U len q = 42 by rw [e]; decide), if_neg (show ¬ tkKind U len q = 47 by rw [e]; decide), if_pos e]
  · intro hk
    rw [if_neg (fun e => hk (Or.inl e)), if_neg (fun e => hk (Or.inr (Or.inl e))), if_neg (fun e => hk (Or.inr (Or.inr e)))]
    split <;> rfl
theorem mh51 {g : zσ → Option zσ} {j : Nat} (h : ER U len x y s0 t0 K np tz G bl ub q dp nd cd us s t) : ((tkKind U len q = 42 ∨ tkKind U len q = 47 ∨ tkKind U len q = 37) → f193_4 n g (j + 1) t = f193_38 n g (f193_4 n g j) t) ∧ (¬ (tkKind U len q = 42 ∨ tkKind U len q = 47 ∨ tkKind U len q = 37) → f193_4 n g (j + 1) t = some t) := by
  have hM := h.2.1.2
  have g42 : f177 n 42 t = some (zone (decide (tkKind U len q = 42)), t) := tm_sign (c := 42) hM.1 (by decide) (by decide)
  have g47 : f177 n 47 t = some (zone (decide (tkKind U len q = 47)), t) := tm_sign (c := 47) hM.1 (by decide) (by decide)
  have g37 : f177 n 37 t = some (zone (decide (tkKind U len q = 37)), t) := tm_sign (c := 37) hM.1 (by decide) (by decide)
  rw [f193_4, m_goes hM.2, yb1_s, if_neg (by decide)]
  constructor
  · intro hk
    rcases hk with e | e | e
    · rw [g42, yb1_s, zone_1 e, if_neg (by decide)]
    · rw [g42, yb1_s, zone_0 (show ¬ tkKind U len q = 42 by rw [e]; decide), if_pos rfl, g47, yb1_s, zone_1 e, if_neg (by decide)]
    · rw [g42, yb1_s, zone_0 (show ¬ tkKind U len q = 42 by rw [e]; decide), if_pos rfl, g47, yb1_s, zone_0 (show ¬ tkKind U len q = 47 by rw [e]; decide), if_pos rfl, g37, yb1_s, zone_1 e, if_neg (by decide)]
  · intro hk
    rw [g42, yb1_s, zone_0 (fun e => hk (Or.inl e)), if_pos rfl, g47, yb1_s, zone_0 (fun e => hk (Or.inr (Or.inl e))), if_pos rfl, g37, yb1_s, zone_0 (fun e => hk (Or.inr (Or.inr e))), if_pos rfl]
theorem lp51 {g g2 : zσ → Option zσ} {D q0 nd0 cd0 us0 : Nat} {sS tS : zσ} (hQ : HQ n U len x y s0 t0 K tz G ub) (hB : EB n U len x y s0 t0 K np tz G bl ub 1 D (g) (g2)) (hg : ∀ t, bk (fun u => u) (LR np y tz) (g2 t) t) (hD : D ≤ dp) : ∀ (m q nd cd us i j j2 : Nat) (s t : zσ), len - q ≤ m → EP U len x y s0 t0 K np tz G bl ub (2 + 3 * (12 - dp)) q0 dp nd0 cd0 us0 sS tS q nd cd us s t → i ≤ q → m < j → m < j2 → Hb (fun u => u) K np y tz (f193_4 n g2 j2 t) → Rs (FC len x s0) (FM len y t0) (ZB K y tz) (EA U len x y s0 t0 K np tz G bl ub (2 + 3 * (12 - dp)) q0 dp nd0 cd0 us0 sS tS) (f51_6 n g j (nI i) s) (f193_4 n g2 j2 t) := by
  obtain ⟨hn, hS, -⟩ := id hQ
  obtain ⟨hB1, hB2, hB3, hB4⟩ := id hB
  have hx := hS.1
  have hy := hS.2.1
  intro m
  induction m with
  | zero =>
    intro q nd cd us i j j2 s t hm h hi hj hj2 H
    obtain ⟨j, rfl⟩ : ∃ j0, j = j0 + 1 := ⟨j - 1, by omega⟩
    obtain ⟨j2, rfl⟩ : ∃ j0, j2 = j0 + 1 := ⟨j2 - 1, by omega⟩
    have hE := h.2.2.1.2
    obtain ⟨hq, hU, hl⟩ := ER_q hE
    have hno : ¬ (tkKind U len q = 42 ∨ tkKind U len q = 47 ∨ tkKind U len q = 37) := fun e => by
      rcases e with e | e | e
      · have := (tk_byte (c := 42) hU hq (by decide) (by decide)).mp e; omega
      · have := (tk_byte (c := 47) hU hq (by decide) (by decide)).mp e; omega
      · have := (tk_byte (c := 37) hU hq (by decide) (by decide)).mp e; omega
    exact Rs_A ((ch51 hE).2 hno) ((mh51 hE).2 hno) ⟨q, nd, cd, us, h⟩
  | succ m ih =>
    intro q nd cd us i j j2 s t hm h hi hj hj2 H
    obtain ⟨j, rfl⟩ : ∃ j0, j = j0 + 2 := ⟨j - 2, by omega⟩
    obtain ⟨j2, rfl⟩ : ∃ j0, j2 = j0 + 2 := ⟨j2 - 2, by omega⟩
    have hE := h.2.2.1.2
    obtain ⟨hq, hU, hl⟩ := ER_q hE
    by_cases hk : tkKind U len q = 42 ∨ tkKind U len q = 47 ∨ tkKind U len q = 37
    · obtain ⟨c, hc, ek⟩ : ∃ c, (c = 42 ∨ c = 47 ∨ c = 37) ∧ tkKind U len q = nI c := by
        rcases hk with e | e | e
        · exact ⟨42, by omega, e⟩
        · exact ⟨47, by omega, e⟩
        · exact ⟨37, by omega, e⟩
      have hcs : zsg c = true ∧ c < 126 := by rcases hc with rfl | rfl | rfl <;> decide
      obtain ⟨hql, hk0⟩ := tk_sg hcs.1 hcs.2 hE ek
      have hgt := tkNx_gt (U := U) hql
      have e1 : f51_6 n g (j + 2) (nI i) s = yb0 (f58 n s) fun u2 => yb0 (g u2) fun u3 => zrd 6 (u3.2.2 1004 5) fun a4 => yb0 (f54 n a4 (nI c) 0 u3) fun u5 => f51_6 n g (j + 1) (nI (i + 1)) u5 := by
        rw [(ch51 hE).1 hk (by omega), ← ek, ← ER_k hE, ← nI_1]; rfl
      have e2 : f193_4 n g2 (j2 + 2) t = yb0 (yb0 (f195 n t) (f164 n)) fun u3 => yb0 (g2 u3) fun u4 => yb0 (f196 n 7 (nI c) u4) fun u5 => f193_4 n g2 (j2 + 1) u5 := by
        rw [(mh51 hE).1 hk, ← m_sgn hcs.1 hcs.2 hE ek, ← y00]; rfl
      rw [e2] at H ⊢
      rw [e1]
      refine st00 H (ER_y hS hE) (bk_y0 LR_tr (b195 hy) (fun u => b164 hy)) (fun u => ?_) (er_node hn hS hE hk0) (fun f z a hF => ?_) (fun f z b hM => ?_) (fun s1 t1 hA H2 => ?_)
      · repeat' (first | (with_reducible exact hB4 _) | (with_reducible exact lb51 hn hy hg _ _) | (with_reducible exact b195 hy) | (with_reducible exact b164 hy) | (with_reducible exact b196 hy) | (with_reducible exact b182 hy) | (with_reducible exact b179 hy) | (with_reducible exact b172 hy) | (with_reducible exact b173 hy (by decide)) | (with_reducible exact b189 hn hy) | (with_reducible exact b190 hn hy _) | (with_reducible exact b178 hy) | (with_reducible exact bk_none) | (with_reducible exact bk_some LR_rf) | (with_reducible refine bk_ite (fun _ => ?_) (fun _ => ?_)) | (with_reducible refine bk_rdL ?_) | (with_reducible refine bk_zS LR_tr (LR_I ?_ ?_ ?_ ?_) ?_) | (with_reducible refine bk_zS LR_tr (LR_J ?_ ?_) ?_) | (with_reducible refine bk_zV ?_) | (with_reducible refine bk_y0 LR_tr ?_ (fun _ => ?_)) | (with_reducible refine bk_y1 LR_tr ?_ (fun _ _ => ?_)) | (with_reducible exact bk_pu pu_167 _) | (with_reducible exact bk_pu pu_177 _) | (with_reducible refine bk_pu (pu_170 hn ?_) _) | (with_reducible exact bk_pu (pu_175 hn) _) | (omega) | (decide))
      · repeat' (first | (with_reducible refine fw_y0 (hB2 _ _ _ (by assumption)) (fun _ _ => ?_)) | (with_reducible exact lf51 (by assumption)) | (with_reducible assumption) | (with_reducible refine fw_some ?_) | (with_reducible exact ⟨rfl, by assumption⟩) | (with_reducible refine fcs_r5 hS (by assumption) ?_) | (with_reducible refine fcs_r6 hS (by assumption) ?_) | (with_reducible refine fcs_r4 hS (by assumption) ?_) | (with_reducible refine fcs_32 (by assumption) ?_) | (with_reducible refine fcs_26 (by assumption) ?_) | (with_reducible refine fcs_37 (by assumption) ?_ ?_) | (with_reducible refine fcs_39 (by assumption) ?_ ?_) | (with_reducible refine fcs_41 (by assumption) ?_ ?_) | (with_reducible refine fcs_57 (by assumption) ?_) | (with_reducible refine fcs_58 hS (by assumption) ?_) | (with_reducible refine fcs_53 hS (by assumption) (fun _ _ => ?_)) | (with_reducible refine fcs_54 hx (by assumption) (fun _ _ => ?_)) | (with_reducible refine fcs_I (by assumption) hx ?_ ?_ ?_ (fun _ => ?_)) | (with_reducible refine fw_z ?_) | (with_reducible refine fw_i1 rfl ?_) | (with_reducible refine fw_i1 (by assumption) ?_) | (with_reducible refine fw_i0 (by assumption) ?_) | (with_reducible refine fw_i0 (fc_k (by assumption) ?_) ?_) | (with_reducible refine fcs_k (by assumption) ?_) | (refine fw_i0 (by decide) ?_) | (refine fw_i1 (by decide) ?_) | (omega) | (decide))
      · repeat' (first | (with_reducible refine fw_y0 (hB3 _ _ _ (by assumption)) (fun _ _ => ?_)) | (with_reducible exact lm51 (by assumption)) | (with_reducible assumption) | (with_reducible refine fw_some ?_) | (with_reducible exact ⟨rfl, by assumption⟩) | (with_reducible refine fms_rd hS (by assumption) ?_) | (with_reducible refine fms_167 (by assumption) ?_) | (with_reducible refine fms_173 (by assumption) ?_) | (with_reducible refine fms_172 (by assumption) ?_) | (with_reducible refine fms_179 (by assumption) ?_) | (with_reducible refine fms_164 hn hS (by assumption) (fun _ _ => ?_)) | (with_reducible refine fms_196 (by assumption) ?_) | (with_reducible refine fms_195 hS (by assumption) ?_) | (with_reducible refine fms_182 hS (by assumption) (fun _ _ => ?_)) | (with_reducible refine fms_189 (by assumption) ?_) | (with_reducible refine fms_190 (by assumption) ?_) | (with_reducible refine fms_178 (by assumption) ?_) | (with_reducible refine fms_I (by assumption) hy ?_ (fun _ => ?_)) | (with_reducible refine fw_z ?_) | (with_reducible refine fw_i1 rfl ?_) | (with_reducible refine fw_i1 (by assumption) ?_) | (with_reducible refine fw_i0 (by assumption) ?_) | (refine fw_i0 (by decide) ?_) | (refine fw_i1 (by decide) ?_) | (omega) | (decide))
      refine st00 H2 (ER_y hS hA.2.2) (hB.2.2.2 _) (fun u => ?_) (hB.1 _ _ _ _ _ _ _ hD hA.2.2) (fun f z a hF => ?_) (fun f z b hM => ?_) (fun s3 t3 hA2 H3 => ?_)
      · repeat' (first | (with_reducible exact lb51 hn hy hg _ _) | (with_reducible exact b195 hy) | (with_reducible exact b164 hy) | (with_reducible exact b196 hy) | (with_reducible exact b182 hy) | (with_reducible exact b179 hy) | (with_reducible exact b172 hy) | (with_reducible exact b173 hy (by decide)) | (with_reducible exact b189 hn hy) | (with_reducible exact b190 hn hy _) | (with_reducible exact b178 hy) | (with_reducible exact bk_none) | (with_reducible exact bk_some LR_rf) | (with_reducible refine bk_ite (fun _ => ?_) (fun _ => ?_)) | (with_reducible refine bk_rdL ?_) | (with_reducible refine bk_zS LR_tr (LR_I ?_ ?_ ?_ ?_) ?_) | (with_reducible refine bk_zS LR_tr (LR_J ?_ ?_) ?_) | (with_reducible refine bk_zV ?_) | (with_reducible refine bk_y0 LR_tr ?_ (fun _ => ?_)) | (with_reducible refine bk_y1 LR_tr ?_ (fun _ _ => ?_)) | (with_reducible exact bk_pu pu_167 _) | (with_reducible exact bk_pu pu_177 _) | (with_reducible refine bk_pu (pu_170 hn ?_) _) | (with_reducible exact bk_pu (pu_175 hn) _) | (omega) | (decide))
      · repeat' (first | (with_reducible exact lf51 (by assumption)) | (with_reducible assumption) | (with_reducible refine fw_some ?_) | (with_reducible exact ⟨rfl, by assumption⟩) | (with_reducible refine fcs_r5 hS (by assumption) ?_) | (with_reducible refine fcs_r6 hS (by assumption) ?_) | (with_reducible refine fcs_r4 hS (by assumption) ?_) | (with_reducible refine fcs_32 (by assumption) ?_) | (with_reducible refine fcs_26 (by assumption) ?_) | (with_reducible refine fcs_37 (by assumption) ?_ ?_) | (with_reducible refine fcs_39 (by assumption) ?_ ?_) | (with_reducible refine fcs_41 (by assumption) ?_ ?_) | (with_reducible refine fcs_57 (by assumption) ?_) | (with_reducible refine fcs_58 hS (by assumption) ?_) | (with_reducible refine fcs_53 hS (by assumption) (fun _ _ => ?_)) | (with_reducible refine fcs_54 hx (by assumption) (fun _ _ => ?_)) | (with_reducible refine fcs_I (by assumption) hx ?_ ?_ ?_ (fun _ => ?_)) | (with_reducible refine fw_z ?_) | (with_reducible refine fw_i1 rfl ?_) | (with_reducible refine fw_i1 (by assumption) ?_) | (with_reducible refine fw_i0 (by assumption) ?_) | (with_reducible refine fw_i0 (fc_k (by assumption) ?_) ?_) | (with_reducible refine fcs_k (by assumption) ?_) | (refine fw_i0 (by decide) ?_) | (refine fw_i1 (by decide) ?_) | (omega) | (decide))
      · repeat' (first | (with_reducible exact lm51 (by assumption)) | (with_reducible assumption) | (with_reducible refine fw_some ?_) | (with_reducible exact ⟨rfl, by assumption⟩) | (with_reducible refine fms_rd hS (by assumption) ?_) | (with_reducible refine fms_167 (by assumption) ?_) | (with_reducible refine fms_173 (by assumption) ?_) | (with_reducible refine fms_172 (by assumption) ?_) | (with_reducible refine fms_179 (by assumption) ?_) | (with_reducible refine fms_164 hn hS (by assumption) (fun _ _ => ?_)) | (with_reducible refine fms_196 (by assumption) ?_) | (with_reducible refine fms_195 hS (by assumption) ?_) | (with_reducible refine fms_182 hS (by assumption) (fun _ _ => ?_)) | (with_reducible refine fms_189 (by assumption) ?_) | (with_reducible refine fms_190 (by assumption) ?_) | (with_reducible refine fms_178 (by assumption) ?_) | (with_reducible refine fms_I (by assumption) hy ?_ (fun _ => ?_)) | (with_reducible refine fw_z ?_) | (with_reducible refine fw_i1 rfl ?_) | (with_reducible refine fw_i1 (by assumption) ?_) | (with_reducible refine fw_i0 (by assumption) ?_) | (refine fw_i0 (by decide) ?_) | (refine fw_i1 (by decide) ?_) | (omega) | (decide))
      obtain ⟨q3, nd3, cd3, us3, hP⟩ := hA2
      have hb := hP.2.1
      have hb1 := hP.1.1
      have hcn := hE.2.2.2.2.2.1.2.2
      rw [ER_5 hS hP.2.2.1.2, grd (gck9 hx).2.1]
      refine st00 H3 (ER_y hS hP.2.2.1.2) (b196 hy) (fun u => ?_) (er_emit hS hP.2.2.1.2 (by omega)) (fun f z a hF => ?_) (fun f z b hM => ?_) (fun s4 t4 hA3 H4 => ?_)
      · repeat' (first | (with_reducible exact lb51 hn hy hg _ _) | (with_reducible exact b195 hy) | (with_reducible exact b164 hy) | (with_reducible exact b196 hy) | (with_reducible exact b182 hy) | (with_reducible exact b179 hy) | (with_reducible exact b172 hy) | (with_reducible exact b173 hy (by decide)) | (with_reducible exact b189 hn hy) | (with_reducible exact b190 hn hy _) | (with_reducible exact b178 hy) | (with_reducible exact bk_none) | (with_reducible exact bk_some LR_rf) | (with_reducible refine bk_ite (fun _ => ?_) (fun _ => ?_)) | (with_reducible refine bk_rdL ?_) | (with_reducible refine bk_zS LR_tr (LR_I ?_ ?_ ?_ ?_) ?_) | (with_reducible refine bk_zS LR_tr (LR_J ?_ ?_) ?_) | (with_reducible refine bk_zV ?_) | (with_reducible refine bk_y0 LR_tr ?_ (fun _ => ?_)) | (with_reducible refine bk_y1 LR_tr ?_ (fun _ _ => ?_)) | (with_reducible exact bk_pu pu_167 _) | (with_reducible exact bk_pu pu_177 _) | (with_reducible refine bk_pu (pu_170 hn ?_) _) | (with_reducible exact bk_pu (pu_175 hn) _) | (omega) | (decide))
      · repeat' (first | (with_reducible exact lf51 (by assumption)) | (with_reducible assumption) | (with_reducible refine fw_some ?_) | (with_reducible exact ⟨rfl, by assumption⟩) | (with_reducible refine fcs_r5 hS (by assumption) ?_) | (with_reducible refine fcs_r6 hS (by assumption) ?_) | (with_reducible refine fcs_r4 hS (by assumption) ?_) | (with_reducible refine fcs_32 (by assumption) ?_) | (with_reducible refine fcs_26 (by assumption) ?_) | (with_reducible refine fcs_37 (by assumption) ?_ ?_) | (with_reducible refine fcs_39 (by assumption) ?_ ?_) | (with_reducible refine fcs_41 (by assumption) ?_ ?_) | (with_reducible refine fcs_57 (by assumption) ?_) | (with_reducible refine fcs_58 hS (by assumption) ?_) | (with_reducible refine fcs_53 hS (by assumption) (fun _ _ => ?_)) | (with_reducible refine fcs_54 hx (by assumption) (fun _ _ => ?_)) | (with_reducible refine fcs_I (by assumption) hx ?_ ?_ ?_ (fun _ => ?_)) | (with_reducible refine fw_z ?_) | (with_reducible refine fw_i1 rfl ?_) | (with_reducible refine fw_i1 (by assumption) ?_) | (with_reducible refine fw_i0 (by assumption) ?_) | (with_reducible refine fw_i0 (fc_k (by assumption) ?_) ?_) | (with_reducible refine fcs_k (by assumption) ?_) | (refine fw_i0 (by decide) ?_) | (refine fw_i1 (by decide) ?_) | (omega) | (decide))
      · repeat' (first | (with_reducible exact lm51 (by assumption)) | (with_reducible assumption) | (with_reducible refine fw_some ?_) | (with_reducible exact ⟨rfl, by assumption⟩) | (with_reducible refine fms_rd hS (by assumption) ?_) | (with_reducible refine fms_167 (by assumption) ?_) | (with_reducible refine fms_173 (by assumption) ?_) | (with_reducible refine fms_172 (by assumption) ?_) | (with_reducible refine fms_179 (by assumption) ?_) | (with_reducible refine fms_164 hn hS (by assumption) (fun _ _ => ?_)) | (with_reducible refine fms_196 (by assumption) ?_) | (with_reducible refine fms_195 hS (by assumption) ?_) | (with_reducible refine fms_182 hS (by assumption) (fun _ _ => ?_)) | (with_reducible refine fms_189 (by assumption) ?_) | (with_reducible refine fms_190 (by assumption) ?_) | (with_reducible refine fms_178 (by assumption) ?_) | (with_reducible refine fms_I (by assumption) hy ?_ (fun _ => ?_)) | (with_reducible refine fw_z ?_) | (with_reducible refine fw_i1 rfl ?_) | (with_reducible refine fw_i1 (by assumption) ?_) | (with_reducible refine fw_i0 (by assumption) ?_) | (refine fw_i0 (by decide) ?_) | (refine fw_i1 (by decide) ?_) | (omega) | (decide))
      exact ih q3 nd3 (cd3 + 1) us3 (i + 1) (j + 1) (j2 + 1) s4 t4 (by omega) (EP_op (hm1 := 1 + 3 * (12 - dp)) hQ (Nat.le_refl _) (by omega) (by omega) h hql hA.2 hP hA3.1 hA3.2) (by omega) (by omega) (by omega) H4
    · exact Rs_A ((ch51 hE).2 hk) ((mh51 hE).2 hk) ⟨q, nd, cd, us, h⟩
theorem pr51 {g g2 : zσ → Option zσ} {D : Nat} (hQ : HQ n U len x y s0 t0 K tz G ub) (hg : ∀ t, bk (fun u => u) (LR np y tz) (g2 t) t) (hB : EB n U len x y s0 t0 K np tz G bl ub 1 D (g) (g2)) : EB n U len x y s0 t0 K np tz G bl ub 2 D (f51 n g) (f193 n g2) := by
  obtain ⟨hn, hS, -⟩ := id hQ
  have hy := hS.2.1
  obtain ⟨n, rfl⟩ : ∃ n0, n = n0 + 1 := ⟨n - 1, by omega⟩
  refine ⟨fun q dp nd cd us s t hD h H => ?_, fun f z s h => fw_y0 (hB.2.1 f z s h) (fun u hu => lf51 hu), fun f z t h => fw_y0 (hB.2.2.1 f z t h) (fun u hu => lm51 hu), fun t => bk_y0 LR_tr (hB.2.2.2 t) (fun u => lb51 hn hy hg _ _)⟩
  refine st00 H (ER_y hS h) (hB.2.2.2 t) (fun u => lb51 hn hy hg _ _) (hB.1 _ _ _ _ _ _ _ hD h) (fun f z a hF => lf51 hF) (fun f z b hM => lm51 hM) (fun s1 t1 hA H2 => ?_)
  obtain ⟨q2, nd2, cd2, us2, hP⟩ := hA
  have hl := (ER_q hP.2.2.1.2).2.2
  exact lp51 hQ hB hg hD (len - q2) q2 nd2 cd2 us2 0 (n + 1) (n + 1) s1 t1 (Nat.le_refl _) (EP_up (by omega) hP) (Nat.zero_le _) (by omega) (by omega) H2
/-! sum -/
theorem lb50 {g : zσ → Option zσ} (hn : 5000 ≤ n) (hy : y = 1134 ∨ y = 1170) (hg : ∀ t, bk (fun u => u) (LR np y tz) (g t) t) : ∀ (j : Nat) (t : zσ), bk (fun u => u) (LR np y tz) (f192_4 n g j t) t
  | 0, _ => bk_none
  | j + 1, t => by
    unfold f192_4 f192_29
    repeat' (first | (with_reducible exact lb50 hn hy hg j _) | (with_reducible exact b193 hn hy hg _) | (with_reducible exact b195 hy) | (with_reducible exact b164 hy) | (with_reducible exact b196 hy) | (with_reducible exact b182 hy) | (with_reducible exact b179 hy) | (with_reducible exact b172 hy) | (with_reducible exact b173 hy (by decide)) | (with_reducible exact b189 hn hy) | (with_reducible exact b190 hn hy _) | (with_reducible exact b178 hy) | (with_reducible exact bk_none) | (with_reducible exact bk_some LR_rf) | (with_reducible refine bk_ite (fun _ => ?_) (fun _ => ?_)) | (with_reducible refine bk_rdL ?_) | (with_reducible refine bk_zS LR_tr (LR_I ?_ ?_ ?_ ?_) ?_) | (with_reducible refine bk_zS LR_tr (LR_J ?_ ?_) ?_) | (with_reducible refine bk_zV ?_) | (with_reducible refine bk_y0 LR_tr ?_ (fun _ => ?_)) | (with_reducible refine bk_y1 LR_tr ?_ (fun _ _ => ?_)) | (with_reducible exact bk_pu pu_167 _) | (with_reducible exact bk_pu pu_177 _) | (with_reducible refine bk_pu (pu_170 hn ?_) _) | (with_reducible exact bk_pu (pu_175 hn) _) | (omega) | (decide))
theorem lf50 {g : zσ → Option zσ} {f z j : Nat} {i : Int32} (h : FC len x s0 f z s) : fw (FC len x s0 f z) (f50_6 n g (j + 1) i s) := by
  rw [f50_6, if_neg (fc_k h (by decide)), if_neg (fc_k h (by decide))]
  exact fw_i (fun _ => fw_some h) (fun _ => fw_some h)
theorem lm50 {g : zσ → Option zσ} {f z j : Nat} (h : FM len y t0 f z t) : fw (FM len y t0 f z) (f192_4 n g (j + 1) t) := by
  rw [f192_4, m_goes0 (fm_ne h)]
  exact fw_some h
theorem ch50 {g : zσ → Option zσ} {j i : Nat} (h : ER U len x y s0 t0 K np tz G bl ub q dp nd cd us s t) : ((tkKind U len q = 43 ∨ tkKind U len q = 45) → i < 4000 → f50_6 n g (j + 1) (nI i) s = f50_37 n g (f50_6 n g j) (nI i) s) ∧ (¬ (tkKind U len q = 43 ∨ tkKind U len q = 45) → f50_6 n g (j + 1) (nI i) s = some s) := by
  rw [f50_6, ER_k h]
  constructor
  · intro hk hi
    rw [if_pos (show nI i < 4000 from nI_lt (b := 4000) hi (by decide))]
    rcases hk with e | e
    · rw [if_pos e]
    · rw [if_neg (show ¬ tkKind U len q = 43 by rw [e]; decide), if_pos e]
  · intro hk
    rw [if_neg (fun e => hk (Or.inl e)), if_neg (fun e => hk (Or.inr e))]
    split <;> rfl
theorem mh50 {g : zσ → Option zσ} {j : Nat} (h : ER U len x y s0 t0 K np tz G bl ub q dp nd cd us s t) : ((tkKind U len q = 43 ∨ tkKind U len q = 45) → f192_4 n g (j + 1) t = f192_29 n g (f192_4 n g j) t) ∧ (¬ (tkKind U len q = 43 ∨ tkKind U len q = 45) → f192_4 n g (j + 1) t = some t) := by
  have hM := h.2.1.2
  have g43 : f177 n 43 t = some (zone (decide (tkKind U len q = 43)), t) := tm_sign (c := 43) hM.1 (by decide) (by decide)
  have g45 : f177 n 45 t = some (zone (decide (tkKind U len q = 45)), t) := tm_sign (c := 45) hM.1 (by decide) (by decide)
  rw [f192_4, m_goes hM.2, yb1_s, if_neg (by decide)]
  constructor
  · intro hk
    rcases hk with e | e
    · rw [g43, yb1_s, zone_1 e, if_neg (by decide)]
    · rw [g43, yb1_s, zone_0 (show ¬ tkKind U len q = 43 by rw [e]; decide), if_pos rfl, g45, yb1_s, zone_1 e, if_neg (by decide)]
  · intro hk
    rw [g43, yb1_s, zone_0 (fun e => hk (Or.inl e)), if_pos rfl, g45, yb1_s, zone_0 (fun e => hk (Or.inr e)), if_pos rfl]
theorem lp50 {g g2 : zσ → Option zσ} {D q0 nd0 cd0 us0 : Nat} {sS tS : zσ} (hQ : HQ n U len x y s0 t0 K tz G ub) (hB : EB n U len x y s0 t0 K np tz G bl ub 2 D (f51 n g) (f193 n g2)) (hg : ∀ t, bk (fun u => u) (LR np y tz) (g2 t) t) (hD : D ≤ dp) : ∀ (m q nd cd us i j j2 : Nat) (s t : zσ), len - q ≤ m → EP U len x y s0 t0 K np tz G bl ub (3 + 3 * (12 - dp)) q0 dp nd0 cd0 us0 sS tS q nd cd us s t → i ≤ q → m < j → m < j2 → Hb (fun u => u) K np y tz (f192_4 n g2 j2 t) → Rs (FC len x s0) (FM len y t0) (ZB K y tz) (EA U len x y s0 t0 K np tz G bl ub (3 + 3 * (12 - dp)) q0 dp nd0 cd0 us0 sS tS) (f50_6 n g j (nI i) s) (f192_4 n g2 j2 t) := by
  obtain ⟨hn, hS, -⟩ := id hQ
  obtain ⟨hB1, hB2, hB3, hB4⟩ := id hB
  have hx := hS.1
  have hy := hS.2.1
  intro m
  induction m with
  | zero =>
    intro q nd cd us i j j2 s t hm h hi hj hj2 H
    obtain ⟨j, rfl⟩ : ∃ j0, j = j0 + 1 := ⟨j - 1, by omega⟩
    obtain ⟨j2, rfl⟩ : ∃ j0, j2 = j0 + 1 := ⟨j2 - 1, by omega⟩
    have hE := h.2.2.1.2
    obtain ⟨hq, hU, hl⟩ := ER_q hE
    have hno : ¬ (tkKind U len q = 43 ∨ tkKind U len q = 45) := fun e => by
      rcases e with e | e
      · have := (tk_byte (c := 43) hU hq (by decide) (by decide)).mp e; omega
      · have := (tk_byte (c := 45) hU hq (by decide) (by decide)).mp e; omega
    exact Rs_A ((ch50 hE).2 hno) ((mh50 hE).2 hno) ⟨q, nd, cd, us, h⟩
  | succ m ih =>
    intro q nd cd us i j j2 s t hm h hi hj hj2 H
    obtain ⟨j, rfl⟩ : ∃ j0, j = j0 + 2 := ⟨j - 2, by omega⟩
    obtain ⟨j2, rfl⟩ : ∃ j0, j2 = j0 + 2 := ⟨j2 - 2, by omega⟩
    have hE := h.2.2.1.2
    obtain ⟨hq, hU, hl⟩ := ER_q hE
    by_cases hk : tkKind U len q = 43 ∨ tkKind U len q = 45
    · obtain ⟨c, hc, ek⟩ : ∃ c, (c = 43 ∨ c = 45) ∧ tkKind U len q = nI c := by
        rcases hk with e | e
        · exact ⟨43, by omega, e⟩
        · exact ⟨45, by omega, e⟩
      have hcs : zsg c = true ∧ c < 126 := by rcases hc with rfl | rfl <;> decide
      obtain ⟨hql, hk0⟩ := tk_sg hcs.1 hcs.2 hE ek
      have hgt := tkNx_gt (U := U) hql
      have e1 : f50_6 n g (j + 2) (nI i) s = yb0 (f58 n s) fun u2 => yb0 (f51 n g u2) fun u3 => zrd 6 (u3.2.2 1004 5) fun a4 => yb0 (f54 n a4 (nI c) 0 u3) fun u5 => f50_6 n g (j + 1) (nI (i + 1)) u5 := by
        rw [(ch50 hE).1 hk (by omega), ← ek, ← ER_k hE, ← nI_1]; rfl
      have e2 : f192_4 n g2 (j2 + 2) t = yb0 (yb0 (f195 n t) (f164 n)) fun u3 => yb0 (f193 n g2 u3) fun u4 => yb0 (f196 n 7 (nI c) u4) fun u5 => f192_4 n g2 (j2 + 1) u5 := by
        rw [(mh50 hE).1 hk, ← m_sgn hcs.1 hcs.2 hE ek, ← y00]; rfl
      rw [e2] at H ⊢
      rw [e1]
      refine st00 H (ER_y hS hE) (bk_y0 LR_tr (b195 hy) (fun u => b164 hy)) (fun u => ?_) (er_node hn hS hE hk0) (fun f z a hF => ?_) (fun f z b hM => ?_) (fun s1 t1 hA H2 => ?_)
      · repeat' (first | (with_reducible exact hB4 _) | (with_reducible exact lb50 hn hy hg _ _) | (with_reducible exact b195 hy) | (with_reducible exact b164 hy) | (with_reducible exact b196 hy) | (with_reducible exact b182 hy) | (with_reducible exact b179 hy) | (with_reducible exact b172 hy) | (with_reducible exact b173 hy (by decide)) | (with_reducible exact b189 hn hy) | (with_reducible exact b190 hn hy _) | (with_reducible exact b178 hy) | (with_reducible exact bk_none) | (with_reducible exact bk_some LR_rf) | (with_reducible refine bk_ite (fun _ => ?_) (fun _ => ?_)) | (with_reducible refine bk_rdL ?_) | (with_reducible refine bk_zS LR_tr (LR_I ?_ ?_ ?_ ?_) ?_) | (with_reducible refine bk_zS LR_tr (LR_J ?_ ?_) ?_) | (with_reducible refine bk_zV ?_) | (with_reducible refine bk_y0 LR_tr ?_ (fun _ => ?_)) | (with_reducible refine bk_y1 LR_tr ?_ (fun _ _ => ?_)) | (with_reducible exact bk_pu pu_167 _) | (with_reducible exact bk_pu pu_177 _) | (with_reducible refine bk_pu (pu_170 hn ?_) _) | (with_reducible exact bk_pu (pu_175 hn) _) | (omega) | (decide))
      · repeat' (first | (with_reducible refine fw_y0 (hB2 _ _ _ (by assumption)) (fun _ _ => ?_)) | (with_reducible exact lf50 (by assumption)) | (with_reducible assumption) | (with_reducible refine fw_some ?_) | (with_reducible exact ⟨rfl, by assumption⟩) | (with_reducible refine fcs_r5 hS (by assumption) ?_) | (with_reducible refine fcs_r6 hS (by assumption) ?_) | (with_reducible refine fcs_r4 hS (by assumption) ?_) | (with_reducible refine fcs_32 (by assumption) ?_) | (with_reducible refine fcs_26 (by assumption) ?_) | (with_reducible refine fcs_37 (by assumption) ?_ ?_) | (with_reducible refine fcs_39 (by assumption) ?_ ?_) | (with_reducible refine fcs_41 (by assumption) ?_ ?_) | (with_reducible refine fcs_57 (by assumption) ?_) | (with_reducible refine fcs_58 hS (by assumption) ?_) | (with_reducible refine fcs_53 hS (by assumption) (fun _ _ => ?_)) | (with_reducible refine fcs_54 hx (by assumption) (fun _ _ => ?_)) | (with_reducible refine fcs_I (by assumption) hx ?_ ?_ ?_ (fun _ => ?_)) | (with_reducible refine fw_z ?_) | (with_reducible refine fw_i1 rfl ?_) | (with_reducible refine fw_i1 (by assumption) ?_) | (with_reducible refine fw_i0 (by assumption) ?_) | (with_reducible refine fw_i0 (fc_k (by assumption) ?_) ?_) | (with_reducible refine fcs_k (by assumption) ?_) | (refine fw_i0 (by decide) ?_) | (refine fw_i1 (by decide) ?_) | (omega) | (decide))
      · repeat' (first | (with_reducible refine fw_y0 (hB3 _ _ _ (by assumption)) (fun _ _ => ?_)) | (with_reducible exact lm50 (by assumption)) | (with_reducible assumption) | (with_reducible refine fw_some ?_) | (with_reducible exact ⟨rfl, by assumption⟩) | (with_reducible refine fms_rd hS (by assumption) ?_) | (with_reducible refine fms_167 (by assumption) ?_) | (with_reducible refine fms_173 (by assumption) ?_) | (with_reducible refine fms_172 (by assumption) ?_) | (with_reducible refine fms_179 (by assumption) ?_) | (with_reducible refine fms_164 hn hS (by assumption) (fun _ _ => ?_)) | (with_reducible refine fms_196 (by assumption) ?_) | (with_reducible refine fms_195 hS (by assumption) ?_) | (with_reducible refine fms_182 hS (by assumption) (fun _ _ => ?_)) | (with_reducible refine fms_189 (by assumption) ?_) | (with_reducible refine fms_190 (by assumption) ?_) | (with_reducible refine fms_178 (by assumption) ?_) | (with_reducible refine fms_I (by assumption) hy ?_ (fun _ => ?_)) | (with_reducible refine fw_z ?_) | (with_reducible refine fw_i1 rfl ?_) | (with_reducible refine fw_i1 (by assumption) ?_) | (with_reducible refine fw_i0 (by assumption) ?_) | (refine fw_i0 (by decide) ?_) | (refine fw_i1 (by decide) ?_) | (omega) | (decide))
      refine st00 H2 (ER_y hS hA.2.2) (hB.2.2.2 _) (fun u => ?_) (hB.1 _ _ _ _ _ _ _ hD hA.2.2) (fun f z a hF => ?_) (fun f z b hM => ?_) (fun s3 t3 hA2 H3 => ?_)
      · repeat' (first | (with_reducible exact lb50 hn hy hg _ _) | (with_reducible exact b195 hy) | (with_reducible exact b164 hy) | (with_reducible exact b196 hy) | (with_reducible exact b182 hy) | (with_reducible exact b179 hy) | (with_reducible exact b172 hy) | (with_reducible exact b173 hy (by decide)) | (with_reducible exact b189 hn hy) | (with_reducible exact b190 hn hy _) | (with_reducible exact b178 hy) | (with_reducible exact bk_none) | (with_reducible exact bk_some LR_rf) | (with_reducible refine bk_ite (fun _ => ?_) (fun _ => ?_)) | (with_reducible refine bk_rdL ?_) | (with_reducible refine bk_zS LR_tr (LR_I ?_ ?_ ?_ ?_) ?_) | (with_reducible refine bk_zS LR_tr (LR_J ?_ ?_) ?_) | (with_reducible refine bk_zV ?_) | (with_reducible refine bk_y0 LR_tr ?_ (fun _ => ?_)) | (with_reducible refine bk_y1 LR_tr ?_ (fun _ _ => ?_)) | (with_reducible exact bk_pu pu_167 _) | (with_reducible exact bk_pu pu_177 _) | (with_reducible refine bk_pu (pu_170 hn ?_) _) | (with_reducible exact bk_pu (pu_175 hn) _) | (omega) | (decide))
      · repeat' (first | (with_reducible exact lf50 (by assumption)) | (with_reducible assumption) | (with_reducible refine fw_some ?_) | (with_reducible exact ⟨rfl, by assumption⟩) | (with_reducible refine fcs_r5 hS (by assumption) ?_) | (with_reducible refine fcs_r6 hS (by assumption) ?_) | (with_reducible refine fcs_r4 hS (by assumption) ?_) | (with_reducible refine fcs_32 (by assumption) ?_) | (with_reducible refine fcs_26 (by assumption) ?_) | (with_reducible refine fcs_37 (by assumption) ?_ ?_) | (with_reducible refine fcs_39 (by assumption) ?_ ?_) | (with_reducible refine fcs_41 (by assumption) ?_ ?_) | (with_reducible refine fcs_57 (by assumption) ?_) | (with_reducible refine fcs_58 hS (by assumption) ?_) | (with_reducible refine fcs_53 hS (by assumption) (fun _ _ => ?_)) | (with_reducible refine fcs_54 hx (by assumption) (fun _ _ => ?_)) | (with_reducible refine fcs_I (by assumption) hx ?_ ?_ ?_ (fun _ => ?_)) | (with_reducible refine fw_z ?_) | (with_reducible refine fw_i1 rfl ?_) | (with_reducible refine fw_i1 (by assumption) ?_) | (with_reducible refine fw_i0 (by assumption) ?_) | (with_reducible refine fw_i0 (fc_k (by assumption) ?_) ?_) | (with_reducible refine fcs_k (by assumption) ?_) | (refine fw_i0 (by decide) ?_) | (refine fw_i1 (by decide) ?_) | (omega) | (decide))
      · repeat' (first | (with_reducible exact lm50 (by assumption)) | (with_reducible assumption) | (with_reducible refine fw_some ?_) | (with_reducible exact ⟨rfl, by assumption⟩) | (with_reducible refine fms_rd hS (by assumption) ?_) | (with_reducible refine fms_167 (by assumption) ?_) | (with_reducible refine fms_173 (by assumption) ?_) | (with_reducible refine fms_172 (by assumption) ?_) | (with_reducible refine fms_179 (by assumption) ?_) | (with_reducible refine fms_164 hn hS (by assumption) (fun _ _ => ?_)) | (with_reducible refine fms_196 (by assumption) ?_) | (with_reducible refine fms_195 hS (by assumption) ?_) | (with_reducible refine fms_182 hS (by assumption) (fun _ _ => ?_)) | (with_reducible refine fms_189 (by assumption) ?_) | (with_reducible refine fms_190 (by assumption) ?_) | (with_reducible refine fms_178 (by assumption) ?_) | (with_reducible refine fms_I (by assumption) hy ?_ (fun _ => ?_)) | (with_reducible refine fw_z ?_) | (with_reducible refine fw_i1 rfl ?_) | (with_reducible refine fw_i1 (by assumption) ?_) | (with_reducible refine fw_i0 (by assumption) ?_) | (refine fw_i0 (by decide) ?_) | (refine fw_i1 (by decide) ?_) | (omega) | (decide))
      obtain ⟨q3, nd3, cd3, us3, hP⟩ := hA2
      have hb := hP.2.1
      have hb1 := hP.1.1
      have hcn := hE.2.2.2.2.2.1.2.2
      rw [ER_5 hS hP.2.2.1.2, grd (gck9 hx).2.1]
      refine st00 H3 (ER_y hS hP.2.2.1.2) (b196 hy) (fun u => ?_) (er_emit hS hP.2.2.1.2 (by omega)) (fun f z a hF => ?_) (fun f z b hM => ?_) (fun s4 t4 hA3 H4 => ?_)
      · repeat' (first | (with_reducible exact lb50 hn hy hg _ _) | (with_reducible exact b195 hy) | (with_reducible exact b164 hy) | (with_reducible exact b196 hy) | (with_reducible exact b182 hy) | (with_reducible exact b179 hy) | (with_reducible exact b172 hy) | (with_reducible exact b173 hy (by decide)) | (with_reducible exact b189 hn hy) | (with_reducible exact b190 hn hy _) | (with_reducible exact b178 hy) | (with_reducible exact bk_none) | (with_reducible exact bk_some LR_rf) | (with_reducible refine bk_ite (fun _ => ?_) (fun _ => ?_)) | (with_reducible refine bk_rdL ?_) | (with_reducible refine bk_zS LR_tr (LR_I ?_ ?_ ?_ ?_) ?_) | (with_reducible refine bk_zS LR_tr (LR_J ?_ ?_) ?_) | (with_reducible refine bk_zV ?_) | (with_reducible refine bk_y0 LR_tr ?_ (fun _ => ?_)) | (with_reducible refine bk_y1 LR_tr ?_ (fun _ _ => ?_)) | (with_reducible exact bk_pu pu_167 _) | (with_reducible exact bk_pu pu_177 _) | (with_reducible refine bk_pu (pu_170 hn ?_) _) | (with_reducible exact bk_pu (pu_175 hn) _) | (omega) | (decide))
      · repeat' (first | (with_reducible exact lf50 (by assumption)) | (with_reducible assumption) | (with_reducible refine fw_some ?_) | (with_reducible exact ⟨rfl, by assumption⟩) | (with_reducible refine fcs_r5 hS (by assumption) ?_) | (with_reducible refine fcs_r6 hS (by assumption) ?_) | (with_reducible refine fcs_r4 hS (by assumption) ?_) | (with_reducible refine fcs_32 (by assumption) ?_) | (with_reducible refine fcs_26 (by assumption) ?_) | (with_reducible refine fcs_37 (by assumption) ?_ ?_) | (with_reducible refine fcs_39 (by assumption) ?_ ?_) | (with_reducible refine fcs_41 (by assumption) ?_ ?_) | (with_reducible refine fcs_57 (by assumption) ?_) | (with_reducible refine fcs_58 hS (by assumption) ?_) | (with_reducible refine fcs_53 hS (by assumption) (fun _ _ => ?_)) | (with_reducible refine fcs_54 hx (by assumption) (fun _ _ => ?_)) | (with_reducible refine fcs_I (by assumption) hx ?_ ?_ ?_ (fun _ => ?_)) | (with_reducible refine fw_z ?_) | (with_reducible refine fw_i1 rfl ?_) | (with_reducible refine fw_i1 (by assumption) ?_) | (with_reducible refine fw_i0 (by assumption) ?_) | (with_reducible refine fw_i0 (fc_k (by assumption) ?_) ?_) | (with_reducible refine fcs_k (by assumption) ?_) | (refine fw_i0 (by decide) ?_) | (refine fw_i1 (by decide) ?_) | (omega) | (decide))
      · repeat' (first | (with_reducible exact lm50 (by assumption)) | (with_reducible assumption) | (with_reducible refine fw_some ?_) | (with_reducible exact ⟨rfl, by assumption⟩) | (with_reducible refine fms_rd hS (by assumption) ?_) | (with_reducible refine fms_167 (by assumption) ?_) | (with_reducible refine fms_173 (by assumption) ?_) | (with_reducible refine fms_172 (by assumption) ?_) | (with_reducible refine fms_179 (by assumption) ?_) | (with_reducible refine fms_164 hn hS (by assumption) (fun _ _ => ?_)) | (with_reducible refine fms_196 (by assumption) ?_) | (with_reducible refine fms_195 hS (by assumption) ?_) | (with_reducible refine fms_182 hS (by assumption) (fun _ _ => ?_)) | (with_reducible refine fms_189 (by assumption) ?_) | (with_reducible refine fms_190 (by assumption) ?_) | (with_reducible refine fms_178 (by assumption) ?_) | (with_reducible refine fms_I (by assumption) hy ?_ (fun _ => ?_)) | (with_reducible refine fw_z ?_) | (with_reducible refine fw_i1 rfl ?_) | (with_reducible refine fw_i1 (by assumption) ?_) | (with_reducible refine fw_i0 (by assumption) ?_) | (refine fw_i0 (by decide) ?_) | (refine fw_i1 (by decide) ?_) | (omega) | (decide))
      exact ih q3 nd3 (cd3 + 1) us3 (i + 1) (j + 1) (j2 + 1) s4 t4 (by omega) (EP_op (hm1 := 2 + 3 * (12 - dp)) hQ (Nat.le_refl _) (by omega) (by omega) h hql hA.2 hP hA3.1 hA3.2) (by omega) (by omega) (by omega) H4
    · exact Rs_A ((ch50 hE).2 hk) ((mh50 hE).2 hk) ⟨q, nd, cd, us, h⟩
theorem pr50 {g g2 : zσ → Option zσ} {D : Nat} (hQ : HQ n U len x y s0 t0 K tz G ub) (hg : ∀ t, bk (fun u => u) (LR np y tz) (g2 t) t) (hB : EB n U len x y s0 t0 K np tz G bl ub 2 D (f51 n g) (f193 n g2)) : EB n U len x y s0 t0 K np tz G bl ub 3 D (f50 n g) (f192 n g2) := by
  obtain ⟨hn, hS, -⟩ := id hQ
  have hy := hS.2.1
  obtain ⟨n, rfl⟩ : ∃ n0, n = n0 + 1 := ⟨n - 1, by omega⟩
  refine ⟨fun q dp nd cd us s t hD h H => ?_, fun f z s h => fw_y0 (hB.2.1 f z s h) (fun u hu => lf50 hu), fun f z t h => fw_y0 (hB.2.2.1 f z t h) (fun u hu => lm50 hu), fun t => bk_y0 LR_tr (hB.2.2.2 t) (fun u => lb50 hn hy hg _ _)⟩
  refine st00 H (ER_y hS h) (hB.2.2.2 t) (fun u => lb50 hn hy hg _ _) (hB.1 _ _ _ _ _ _ _ hD h) (fun f z a hF => lf50 hF) (fun f z b hM => lm50 hM) (fun s1 t1 hA H2 => ?_)
  obtain ⟨q2, nd2, cd2, us2, hP⟩ := hA
  have hl := (ER_q hP.2.2.1.2).2.2
  exact lp50 hQ hB hg hD (len - q2) q2 nd2 cd2 us2 0 (n + 1) (n + 1) s1 t1 (Nat.le_refl _) (EP_up (by omega) hP) (Nat.zero_le _) (by omega) (by omega) H2
end ZPQ
