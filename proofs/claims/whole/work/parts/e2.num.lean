/-! declarations, both readers: numbers -/
section ZRC
variable {U : Nat → Nat} {len x y n K np bl ub q dp nd cd us es na nb q2 N c : Nat} {s0 t0 tz s t s2 t2 s3 t3 : zσ} {G : Nat → Nat → Nat} {cnt : Nat → Nat}
theorem znb_n {U : Nat → Nat} {q : Nat} : ∀ m, m ≤ 9 → (∀ i, i < m → 48 ≤ U (q + i) ∧ U (q + i) ≤ 57) → ∃ v, znb U q m = nI v ∧ v < 10 ^ m
  | 0, _, _ => ⟨0, rfl, by decide⟩
  | m + 1, hm, hU => by
    obtain ⟨v, h1, h2⟩ := znb_n m (by omega) (fun i hi => hU i (by omega))
    have hu := hU m (by omega)
    refine ⟨v * 10 + (U (q + m) - 48), ?_, ?_⟩
    · show ((znb U q m * 10) + nI (U (q + m))) - 48 = _
      rw [h1, nmulL, naddN, show (48 : Int32) = nI 48 from rfl, nsubN (by omega)]
      congr 1
      show 10 * v + U (q + m) - 48 = _
      omega
    · rw [Nat.pow_succ]; omega
theorem zrn_all {U : Nat → Nat} {b : Bool} {len : Nat} : ∀ (m p : Nat), len - p = m → p ≤ len → ∀ i, p ≤ i → i < zrn U b len p → (zfgU (U i) || b && zltU (U i)) = true := by
  intro m
  induction m with
  | zero =>
    intro p h1 h2 i h3 h4
    have : p = len := by omega
    subst this
    rw [zrn_l] at h4
    omega
  | succ m ih =>
    intro p h1 h2 i h3 h4
    by_cases h : (zfgU (U p) || b && zltU (U p)) = true
    · by_cases e : i = p
      · subst e; exact h
      · rw [zrn_s (by omega) h] at h4
        exact ih (p + 1) (by omega) (by omega) i (by omega) h4
    · rw [zrn_n h] at h4
      omega
theorem nb_v (h : ER U len x y s0 t0 K np tz G bl ub q dp nd cd us s t) (e2 : tkKind U len q = 2) : ∃ v, v < 2 ^ 31 ∧ s.1 1001 6 = nI v ∧ t.1 1132 7 = nI v := by
  obtain ⟨hq, hU, -⟩ := ER_q h
  have hql := tk_lt h (by rw [e2]; decide)
  have hfg : ¬ zltU (U q) = true ∧ zfgU (U q) = true ∧ tkEnd U len q - q ≤ 9 := by
    rcases tk_cases hU hq with ⟨-, e, -⟩ | ⟨-, e, -⟩ | ⟨-, -, ⟨w, hw, -, e⟩, -⟩ | ⟨-, -, -, e, -⟩ | ⟨-, b1, b2, -, -⟩ | ⟨hlt, -, -, hs, e, -⟩
    · rw [e2] at e; exact absurd e (by decide)
    · rw [e2] at e; exact absurd e (by decide)
    · rw [e2] at e; exfalso; have := (nIe (u := 2) (k := 128 + w) (by decide) (by omega)).mp e; omega
    · rw [e2] at e; exact absurd e (by decide)
    · refine ⟨fun hl => ?_, b1, b2⟩
      unfold zltU at hl
      unfold zfgU at b1
      simp only [Bool.and_eq_true, decide_eq_true_eq] at hl b1
      omega
    · rw [e2] at e; exfalso; have := (nIe (u := 2) (k := U q) (by decide) (hU q hlt)).mp e; have := zsg_b hs (hU q hlt); omega
  have e6 : s.1 1001 6 = tkNb U len q := h.1.2.1.2.2.2.2.2.2.2 hql hfg.2.1
  have eE : tkEnd U len q = zrn U false len (q + 1) := by
    unfold tkEnd
    rw [if_neg (by omega), if_neg hfg.1, if_pos hfg.2.1]
  have hdig : ∀ i, i < tkEnd U len q - q → 48 ≤ U (q + i) ∧ U (q + i) ≤ 57 := fun i hi => by
    have hz : zfgU (U (q + i)) = true := by
      by_cases e : i = 0
      · subst e; exact hfg.2.1
      · have := zrn_all (U := U) (b := false) (len := len) (len - (q + 1)) (q + 1) rfl (by omega) (q + i) (by omega) (by rw [← eE]; omega)
        simpa using this
    unfold zfgU at hz
    simp only [Bool.and_eq_true, decide_eq_true_eq] at hz
    exact hz
  obtain ⟨v, h1, h2⟩ := znb_n (U := U) (q := q) (tkEnd U len q - q) hfg.2.2 hdig
  have h3 : 10 ^ (tkEnd U len q - q) ≤ 10 ^ 9 := Nat.pow_le_pow_right (by decide) hfg.2.2
  refine ⟨v, by omega, e6.trans h1, (m_nb h e2).trans (e6.trans h1)⟩
/-- what is between a told name and the end of its declaration: values alone -/
def vF (x y : Nat) (s t s2 t2 : zσ) : Prop := ((∀ a, a ≠ 1001 → a ≠ 1004 → a ≠ x + 12 → a ≠ x + 13 → s2.1 a = s.1 a) ∧ (∀ a, a ≠ 1001 → s2.2.1 a = s.2.1 a) ∧ s2.2.2 = s.2.2 ∧ (∀ k, k ≠ 10 → k ≠ 11 → s2.1 1004 k = s.1 1004 k)) ∧ ((∀ a, a ≠ 1132 → a ≠ y + 5 → a ≠ y + 6 → t2.1 a = t.1 a) ∧ (∀ a, a ≠ 1132 → t2.2.1 a = t.2.1 a) ∧ t2.2.2 = t.2.2 ∧ (∀ k, k ≠ 3 → k ≠ 4 → k ≠ 5 → k ≠ 7 → k ≠ 8 → k ≠ 9 → k ≠ 10 → t2.1 1132 k = t.1 1132 k))
theorem vF_rf : vF x y s t s t := ⟨⟨fun _ _ _ _ _ => rfl, fun _ _ => rfl, rfl, fun _ _ _ => rfl⟩, fun _ _ _ _ => rfl, fun _ _ => rfl, rfl, fun _ _ _ _ _ _ _ _ => rfl⟩
theorem vF_tr (h1 : vF x y s t s2 t2) (h2 : vF x y s2 t2 s3 t3) : vF x y s t s3 t3 := by
  obtain ⟨⟨a1, a2, a3, a4⟩, b1, b2, b3, b4⟩ := h1
  obtain ⟨⟨c1, c2, c3, c4⟩, d1, d2, d3, d4⟩ := h2
  exact ⟨⟨fun a p q r u => (c1 a p q r u).trans (a1 a p q r u), fun a p => (c2 a p).trans (a2 a p), c3.trans a3, fun k p q => (c4 k p q).trans (a4 k p q)⟩, fun a p q r => (d1 a p q r).trans (b1 a p q r), fun a p => (d2 a p).trans (b2 a p), d3.trans b3, fun k p q r u v w z => (d4 k p q r u v w z).trans (b4 k p q r u v w z)⟩
theorem vF_tok (hx : x = 1060 ∨ x = 1096) (o1 : zof s s2 1001) (o2 : frN t t2) : vF x y s t s2 t2 := ⟨⟨fun a p _ _ _ => (o1.1 a p).1, fun a p => (o1.1 a p).2.1, o1.2, fun k _ _ => by rw [(o1.1 1004 (by decide)).1]⟩, fun a p _ _ => (o2.1 a p).1, fun a p => (o2.1 a p).2.1, o2.2.2.2, fun k p q r u v _ _ => o2.2.1 k p q r u v⟩
/-- a step over a token: all that is kept -/
theorem ev_n {α β : Type} {pm : β → zσ} {F2 : Nat → Nat → α → Prop} {M2 : Nat → Nat → β → Prop} {B : α → β → Prop} {kc : zσ → Option α} {km : zσ → Option β} (hn : 5000 ≤ n) (hS : S0 U len x y s0 t0) (h : ER U len x y s0 t0 K np tz G bl ub q dp nd cd us s t) (H : Hb pm K np y tz (yb0 (f164 n t) km)) (hkm : ∀ u, bk pm (LR np y tz) (km u) u) (hA : ∀ a b, ER U len x y s0 t0 K np tz G bl ub (tkNx U len q) dp nd cd us a b → zof s a 1001 → frN t b → q ≤ tkNx U len q → Hb pm K np y tz (km b) → Rs F2 M2 (ZB K y tz) B (kc a) (km b)) : Rs F2 M2 (ZB K y tz) B (yb0 (f26 n s) kc) (yb0 (f164 n t) km) := by
  obtain ⟨s2, e1, c1, o1⟩ := c_adv hn h.1.2
  obtain ⟨t2, e2, c2, o2⟩ := m_next hn h.2.1.2
  have H2 := H_0 (pm := pm) H (ER_y hS h) (b164 hS.2.1) hkm
  rw [e2, yb0_s] at H
  rw [e1, e2, yb0_s, yb0_s]
  refine hA s2 t2 (er_tok hS h c1 o1 c2 (frT_N o2) (Hb_L H2 e2)).2 o1 o2 ?_ H
  rcases Nat.lt_or_ge q len with e | e
  · have := tkNx_gt (U := U) e; omega
  · have := (ER_q h).1
    have : q = len := by omega
    subst this
    rw [tkNx_l]; omega
/-- a number within limits -/
theorem num_ok {a b : Int32} (hn : 5000 ≤ n) (hS : S0 U len x y s0 t0) (h : ER U len x y s0 t0 K np tz G bl ub q dp nd cd us s t) (H : Hb (fun u => u.2) K np y tz (f178 n a b t)) : Rs (fun f z p => p.1 = -1 ∧ FC len x s0 f z p.2) (fun f z p => (∃ v, v < 2 ^ 31 ∧ p.1 = nI v) ∧ FM len y t0 f z p.2) (ZB K y tz) (fun p w => ∃ v, (v < 2 ^ 31 ∧ p.1 = nI v ∧ w.1 = nI v ∧ ¬ nI v < a ∧ ¬ b < nI v) ∧ q < len ∧ ER U len x y s0 t0 K np tz G bl ub (tkNx U len q) dp nd cd us p.2 w.2 ∧ zof s p.2 1001 ∧ frN t w.2) (f67 n a b s) (f178 n a b t) := by
  have hx := hS.1
  have hy := hS.2.1
  have hM := h.2.1.2
  have k2 := (tm_kind hM.1).2.1
  by_cases e2 : tkKind U len q = 2
  · obtain ⟨v, v1, v2, v3⟩ := nb_v h e2
    have hk0 : ¬ tkKind U len q = 0 := by rw [e2]; decide
    have hql := tk_lt h (by rw [e2]; decide)
    have ec : f67 n a b s = if nI v < a then f67_35 n s else if b < nI v then f67_35 n s else yb0 (f26 n s) fun u2 => some (nI v, u2) := by
      unfold f67
      rw [ER_k h, if_pos e2, v2]; rfl
    have em : f178 n a b t = if nI v < a then f178_39 n t else if b < nI v then f178_39 n t else f178_48 n t := by
      unfold f178
      rw [m_goes hM.2, yb1_s, if_neg n10, if_pos (k2.mpr e2), v3]
    have hbad : Rs (fun f z p => p.1 = -1 ∧ FC len x s0 f z p.2) (fun f z p => (∃ v, v < 2 ^ 31 ∧ p.1 = nI v) ∧ FM len y t0 f z p.2) (ZB K y tz) (fun p w => ∃ v, (v < 2 ^ 31 ∧ p.1 = nI v ∧ w.1 = nI v ∧ ¬ nI v < a ∧ ¬ b < nI v) ∧ q < len ∧ ER U len x y s0 t0 K np tz G bl ub (tkNx U len q) dp nd cd us p.2 w.2 ∧ zof s p.2 1001 ∧ frN t w.2) (f67_35 n s) (f178_39 n t) := by
      obtain ⟨s2, x1, y1⟩ := er_ref (n := n) (f := 5) hS h
      obtain ⟨t2, x2, y2⟩ := er_wrong (n := n) (f := 5) hS (by decide) h
      have hz5 : zft U len q 5 = 5 := if_neg hk0
      rw [hz5] at y1
      refine Rs_B (f := 5) (z := q) ⟨(-1, s2), by unfold f67_35; rw [show f32 n 5 s = _ from x1]; rfl, rfl, y1⟩ ?_
      unfold f178_39 f178_48
      rw [show f173 n 5 (t.1 1132 4) t = _ from x2, yb0_s]
      have e7 : t2.1 1132 7 = nI v := by
        unfold f173 at x2
        rw [if_pos hM.2] at x2
        cases x2
        rw [hIk (by decide), hIk (by decide)]; exact v3
      rw [e7]
      exact fw_z (fms_164 hn hS y2 (fun u hu => ⟨_, rfl, ⟨v, v1, rfl⟩, hu⟩))
    rw [em] at H ⊢
    rw [ec]
    by_cases c1 : nI v < a
    · rw [if_pos c1, if_pos c1]; exact hbad
    · rw [if_neg c1] at H ⊢
      rw [if_neg c1]
      by_cases c2 : b < nI v
      · rw [if_pos c2, if_pos c2]; exact hbad
      · rw [if_neg c2] at H ⊢
        rw [if_neg c2]
        unfold f178_48 at H ⊢
        rw [v3] at H ⊢
        refine Rs_zm ?_
        replace H := Hb_z H
        refine ev_n hn hS h H (fun u => bk_some LR_rf) (fun s2 t2 hab o1 o2 hq2 H2 => ?_)
        exact Rs_A rfl rfl ⟨v, ⟨v1, rfl, rfl, c1, c2⟩, hql, hab, o1, o2⟩
  · obtain ⟨s2, x1, y1⟩ := er_ref (n := n) (f := 2) hS h
    obtain ⟨t2, x2, y2⟩ := er_cant (n := n) hS h
    refine Rs_B (f := zft U len q 2) (z := q) ⟨(-1, s2), ?_, rfl, y1⟩ ⟨(0, t2), ?_, ⟨0, by decide, rfl⟩, y2⟩
    · unfold f67
      rw [ER_k h, if_neg e2, show f32 n 2 s = _ from x1]; rfl
    · unfold f178
      rw [m_goes hM.2, yb1_s, if_neg n10, if_neg (fun e => e2 (k2.mp e)), x2]; rfl
end ZRC
