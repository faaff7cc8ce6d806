/-! declarations, both readers: numbers -/
section ZRC
variable {U : Nat → Nat} {len x y n K np bl ub q dp nd cd us es na nb q2 N c : Nat} {s0 t0 tz s t s2 t2 : zσ} {G : Nat → Nat → Nat} {cnt : Nat → Nat}
theorem znb_n {U : Nat → Nat} {q : Nat} : ∀ m, m ≤ 9 → (∀ i, i < m → 48 ≤ U (q + i) ∧ U (q + i) ≤ 57) → ∃ v, znb U q m = nI v ∧ v < 10 ^ m
  | 0, _, _ => ⟨0, rfl, by decide⟩
  | m + 1, hm, hU => by
    obtain ⟨v, h1, h2⟩ := znb_n m (by omega) (fun i hi => hU i (by omega))
    have hu := hU m (by omega)
    refine ⟨v * 10 + (U (q + m) - 48), ?_, ?_⟩
    · show ((znb U q m * 10) + nI (U (q + m))) - 48 = _
      rw [h1, nmulL, naddN, show (48 : Int32) = nI 48 from rfl, nsubN (by omega)]
      congr 1
      show 10 * v + U (q + m) - 48 = _
      omega
    · rw [Nat.pow_succ]; omega
theorem zrn_all {U : Nat → Nat} {b : Bool} {len : Nat} : ∀ (m p : Nat), len - p = m → p ≤ len → ∀ i, p ≤ i → i < zrn U b len p → (zfgU (U i) || b && zltU (U i)) = true := by
  intro m
  induction m with
  | zero =>
    intro p h1 h2 i h3 h4
    have : p = len := by omega
    subst this
    rw [zrn_l] at h4
    omega
  | succ m ih =>
    intro p h1 h2 i h3 h4
    by_cases h : (zfgU (U p) || b && zltU (U p)) = true
    · by_cases e : i = p
      · subst e; exact h
      · rw [zrn_s (by omega) h] at h4
        exact ih (p + 1) (by omega) (by omega) i (by omega) h4
    · rw [zrn_n h] at h4
      omega
theorem nb_v (h : ER U len x y s0 t0 K np tz G bl ub q dp nd cd us s t) (e2 : tkKind U len q = 2) : ∃ v, v < 2 ^ 31 ∧ s.1 1001 6 = nI v ∧ t.1 1132 7 = nI v := by
  obtain ⟨hq, hU, -⟩ := ER_q h
  have hql := tk_lt h (by rw [e2]; decide)
  have hfg : ¬ zltU (U q) = true ∧ zfgU (U q) = true ∧ tkEnd U len q - q ≤ 9 := by
    rcases tk_cases hU hq with ⟨-, e, -⟩ | ⟨-, e, -⟩ | ⟨-, -, ⟨w, hw, -, e⟩, -⟩ | ⟨-, -, -, e, -⟩ | ⟨-, b1, b2, -, -⟩ | ⟨hlt, -, -, hs, e, -⟩
    · rw [e2] at e; exact absurd e (by decide)
    · rw [e2] at e; exact absurd e (by decide)
    · rw [e2] at e; exfalso; have := (nIe (u := 2) (k := 128 + w) (by decide) (by omega)).mp e; omega
    · rw [e2] at e; exact absurd e (by decide)
    · refine ⟨fun hl => ?_, b1, b2⟩
      unfold zltU at hl
      unfold zfgU at b1
      simp only [Bool.and_eq_true, decide_eq_true_eq] at hl b1
      omega
    · rw [e2] at e; exfalso; have := (nIe (u := 2) (k := U q) (by decide) (hU q hlt)).mp e; have := zsg_b hs (hU q hlt); omega
  have e6 : s.1 1001 6 = tkNb U len q := h.1.2.1.2.2.2.2.2.2.2 hql hfg.2.1
  have eE : tkEnd U len q = zrn U false len (q + 1) := by
    unfold tkEnd
    rw [if_neg (by omega), if_neg hfg.1, if_pos hfg.2.1]
  have hdig : ∀ i, i < tkEnd U len q - q → 48 ≤ U (q + i) ∧ U (q + i) ≤ 57 := fun i hi => by
    have hz : zfgU (U (q + i)) = true := by
      by_cases e : i = 0
      · subst e; exact hfg.2.1
      · have := zrn_all (U := U) (b := false) (len := len) (len - (q + 1)) (q + 1) rfl (by omega) (q + i) (by omega) (by rw [← eE]; omega)
        simpa using this
    unfold zfgU at hz
    simp only [Bool.and_eq_true, decide_eq_true_eq] at hz
    exact hz
  obtain ⟨v, h1, h2⟩ := znb_n (U := U) (q := q) (tkEnd U len q - q) hfg.2.2 hdig
  have h3 : 10 ^ (tkEnd U len q - q) ≤ 10 ^ 9 := Nat.pow_le_pow_right (by decide) hfg.2.2
  refine ⟨v, by omega, e6.trans h1, (m_nb h e2).trans (e6.trans h1)⟩
/-- a number within limits -/
theorem num_ok {a b : Int32} (hn : 5000 ≤ n) (hS : S0 U len x y s0 t0) (h : ER U len x y s0 t0 K np tz G bl ub q dp nd cd us s t) (H : Hb (fun u => u.2) K np y tz (f178 n a b t)) : Rs (fun f z p => p.1 = -1 ∧ FC len x s0 f z p.2) (fun f z p => (∃ v, v < 2 ^ 31 ∧ p.1 = nI v) ∧ FM len y t0 f z p.2) (ZB K y tz) (fun p w => ∃ v, (v < 2 ^ 31 ∧ p.1 = nI v ∧ w.1 = nI v ∧ ¬ nI v < a ∧ ¬ b < nI v) ∧ q < len ∧ EN U len x y s0 t0 K np tz G bl ub cd us (tkNx U len q) dp nd cd us s t p.2 w.2) (f67 n a b s) (f178 n a b t) := by
  have hx := hS.1
  have hy := hS.2.1
  have hM := h.2.1.2
  have k2 := (tm_kind hM.1).2.1
  by_cases e2 : tkKind U len q = 2
  · obtain ⟨v, v1, v2, v3⟩ := nb_v h e2
    have hk0 : ¬ tkKind U len q = 0 := by rw [e2]; decide
    have hql := tk_lt h (by rw [e2]; decide)
    have ec : f67 n a b s = if nI v < a then f67_35 n s else if b < nI v then f67_35 n s else yb0 (f26 n s) fun u2 => some (nI v, u2) := by
      unfold f67
      rw [ER_k h, if_pos e2, v2]; rfl
    have em : f178 n a b t = if nI v < a then f178_39 n t else if b < nI v then f178_39 n t else f178_48 n t := by
      unfold f178
      rw [m_goes hM.2, yb1_s, if_neg n10, if_pos (k2.mpr e2), v3]
    have hbad : Rs (fun f z p => p.1 = -1 ∧ FC len x s0 f z p.2) (fun f z p => (∃ v, v < 2 ^ 31 ∧ p.1 = nI v) ∧ FM len y t0 f z p.2) (ZB K y tz) (fun p w => ∃ v, (v < 2 ^ 31 ∧ p.1 = nI v ∧ w.1 = nI v ∧ ¬ nI v < a ∧ ¬ b < nI v) ∧ q < len ∧ EN U len x y s0 t0 K np tz G bl ub cd us (tkNx U len q) dp nd cd us s t p.2 w.2) (f67_35 n s) (f178_39 n t) := by
      obtain ⟨s2, x1, y1⟩ := er_ref (n := n) (f := 5) hS h
      obtain ⟨t2, x2, y2⟩ := er_wrong (n := n) (f := 5) hS (by decide) h
      have hz5 : zft U len q 5 = 5 := if_neg hk0
      rw [hz5] at y1
      refine Rs_B (f := 5) (z := q) ⟨(-1, s2), by unfold f67_35; rw [show f32 n 5 s = _ from x1]; rfl, rfl, y1⟩ ?_
      unfold f178_39 f178_48
      rw [show f173 n 5 (t.1 1132 4) t = _ from x2, yb0_s]
      have e7 : t2.1 1132 7 = nI v := by
        unfold f173 at x2
        rw [if_pos hM.2] at x2
        cases x2
        rw [hIk (by decide), hIk (by decide)]; exact v3
      rw [e7]
      exact fw_z (fms_164 hn hS y2 (fun u hu => ⟨_, rfl, ⟨v, v1, rfl⟩, hu⟩))
    rw [em] at H ⊢
    rw [ec]
    by_cases c1 : nI v < a
    · rw [if_pos c1, if_pos c1]; exact hbad
    · rw [if_neg c1] at H ⊢
      rw [if_neg c1]
      by_cases c2 : b < nI v
      · rw [if_pos c2, if_pos c2]; exact hbad
      · rw [if_neg c2] at H ⊢
        rw [if_neg c2]
        unfold f178_48 at H ⊢
        rw [v3] at H ⊢
        refine Rs_zm ?_
        replace H := Hb_z H
        refine er_n hn hS h H (fun u => bk_some LR_rf) (fun s2 t2 hab hq2 H2 => ?_)
        exact Rs_A rfl rfl ⟨v, ⟨v1, rfl, rfl, c1, c2⟩, hql, hab⟩
  · obtain ⟨s2, x1, y1⟩ := er_ref (n := n) (f := 2) hS h
    obtain ⟨t2, x2, y2⟩ := er_cant (n := n) hS h
    refine Rs_B (f := zft U len q 2) (z := q) ⟨(-1, s2), ?_, rfl, y1⟩ ⟨(0, t2), ?_, ⟨0, by decide, rfl⟩, y2⟩
    · unfold f67
      rw [ER_k h, if_neg e2, show f32 n 2 s = _ from x1]; rfl
    · unfold f178
      rw [m_goes hM.2, yb1_s, if_neg n10, if_neg (fun e => e2 (k2.mp e)), x2]; rfl
end ZRC
