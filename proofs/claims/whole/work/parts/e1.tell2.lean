/-! declarations, both readers: a name is told, by both -/
section ZRB
variable {U : Nat → Nat} {len x y n K np bl ub q dp nd cd us es na nb q2 N c : Nat} {s0 t0 tz s t s2 t2 : zσ} {G : Nat → Nat → Nat} {cnt : Nat → Nat}
/-- what telling names leaves -/
def tF (x y : Nat) (s t s2 t2 : zσ) : Prop := ((∀ a, a ≠ 1001 → a ≠ 1005 → a ≠ x + 11 → s2.1 a = s.1 a) ∧ (∀ a, a ≠ 1001 → (a < x + 2 ∨ x + 10 < a) → s2.2.1 a = s.2.1 a) ∧ s2.2.2 = s.2.2) ∧ ((∀ a, a ≠ 1132 → a ≠ y → a ≠ y + 2 → a ≠ y + 3 → a ≠ y + 4 → t2.1 a = t.1 a) ∧ (∀ a, a ≠ 1132 → a ≠ y + 1 → t2.2.1 a = t.2.1 a) ∧ t2.2.2 = t.2.2 ∧ (∀ k, k ≠ 0 → t2.1 y k = t.1 y k) ∧ (∀ k, k ≠ 3 → k ≠ 4 → k ≠ 5 → k ≠ 7 → k ≠ 8 → k ≠ 9 → k ≠ 10 → t2.1 1132 k = t.1 1132 k))
theorem BC_J {a k : Nat} {v : Int64} (ha : a = 1006 ∨ x + 2 ≤ a ∧ a ≤ x + 10) (h : BC len x s0 s) : BC len x s0 (sJ s a k v) := by
  obtain ⟨⟨g1, g2, g3⟩, h2, h3, h4⟩ := h
  exact ⟨⟨g1, fun b b1 b2 b3 => by rw [← g2 b b1 b2 b3]; funext j; rw [gJ, if_neg (by omega)], g3⟩, h2, h3, h4⟩
theorem CG_J {a k : Nat} {v : Int64} (h1 : a ≠ 1001) (h2 : a ≠ 1003) (h : CG U len q s) : CG U len q (sJ s a k v) := ⟨TC_fr h.1 rfl rfl (by funext j; rw [gJ, if_neg (by omega)]) (by funext j; rw [gJ, if_neg (by omega)]), h.2⟩
theorem Lt_Jn {a k : Nat} {v : Int64} (h1 : a ≠ y + 29) (h2 : a ≠ y + 12) (h : Lt np y t tz) : Lt np y (sJ t a k v) tz := by
  have g : ∀ b j, b ≠ a → (sJ t a k v).2.1 b j = t.2.1 b j := fun b j q => by rw [gJ, if_neg (by omega)]
  obtain ⟨a1, a2, a3, a4, a5, a6, a7⟩ := h
  refine ⟨a1, ?_, a3, a4, a5, a6, fun p hp => ⟨(a7 p hp).1, fun k2 hk2 => by rw [g _ _ (Ne.symm h2)]; exact (a7 p hp).2 k2 hk2⟩⟩
  obtain ⟨us, uz, b1, b2, b3, b4, b5⟩ := a2
  exact ⟨us, uz, b1, b2, b3, b4, fun u hu => ⟨by rw [g _ _ (Ne.symm h1)]; exact (b5 u hu).1, (b5 u hu).2⟩⟩
/-- the class's table with a name more, in the first pass; in the second the count alone -/
def tlC (x K c i : Nat) (s : zσ) : zσ := if K = 0 then sI (sI (sJ s (x + 2 + c) i (s.2.1 1001 7)) (x + 11) c (nI (i + 1))) 1005 c (nI (i + 1)) else sI s 1005 c (nI (i + 1))
theorem ER_tl (hS : S0 U len x y s0 t0) (hK01 : K ≤ 1) (h : ER U len x y s0 t0 K np tz G bl ub q dp nd cd us s t) (hc : c < 9) {i : Nat} : ER U len x y s0 t0 K np tz G bl ub q dp nd cd us (tlC x K c i s) (tlM y c N i t) := by
  have hx := hS.1
  have hy := hS.2.1
  obtain ⟨⟨b1, b1'⟩, ⟨b2, b2'⟩, b3, ⟨d1, d2, d3⟩, ⟨n1, n2, n3⟩, ⟨k1, k2, k3⟩, ⟨u1, u2⟩, b8⟩ := h
  have hBM : GFm y t0 (tlM y c N i t) := by
    unfold tlM
    refine GFm_I (by omega) hy (GFm_I (by omega) hy (GFm_I (by omega) hy (GFm_I (by omega) hy ?_)))
    exact ⟨b2.1.1, fun b a1 a2 a3 a4 => by rw [← b2.1.2.1 b a1 a2 a3 a4]; funext j; rw [gJ, if_neg (by omega)], b2.1.2.2.1, b2.1.2.2.2⟩
  have hMG : MG U len q (tlM y c N i t) := by
    unfold tlM
    exact MG_I (by omega) (by omega) (MG_I (by omega) (by omega) (MG_I (by omega) (by omega) (MG_I (by omega) (by omega) (MG_J (by omega) b2'))))
  have e32 : ∀ k, (tlM y c N i t).1 1132 k = t.1 1132 k := fun k => by
    unfold tlM
    rw [hIo (by omega), hIo (by omega), hIo (by omega), hIo (by omega)]; rfl
  have ey : ∀ k, k ≠ 0 → (tlM y c N i t).1 y k = t.1 y k := fun k hk => by
    unfold tlM
    rw [hIo (by omega), hIk hk, hIo (by omega), hIo (by omega)]; rfl
  have hL : K = 1 → Lt np y (tlM y c N i t) tz := fun hK => by
    unfold tlM
    exact Lt_I (by omega) (by omega) (by omega) (by omega) (Lt_I (by omega) (by omega) (by omega) (by omega) (Lt_I (by omega) (by omega) (by omega) (by omega) (Lt_I (by omega) (by omega) (by omega) (by omega) (Lt_Jn (by omega) (by omega) (b8 hK).1))))
  have eC : ∀ a, a ≠ 1005 → a ≠ x + 11 → (tlC x K c i s).1 a = s.1 a := fun a a1 a2 => by
    unfold tlC
    split
    · rw [hIo a1, hIo a2]; rfl
    · rw [hIo a1]
  have hBC : BC len x s0 (tlC x K c i s) ∧ CG U len q (tlC x K c i s) := by
    unfold tlC
    split
    · exact ⟨BC_I hx (by omega) (by omega) (BC_I hx (by omega) (by omega) (BC_J (by omega) b1)), CG_I (by omega) (by omega) (by omega) (CG_I (by omega) (by omega) (by omega) (CG_J (by omega) (by omega) b1'))⟩
    · exact ⟨BC_I hx (by omega) (by omega) b1, CG_I (by omega) (by omega) (by omega) b1'⟩
  refine ⟨hBC, ⟨⟨hBM, ?_⟩, hMG⟩, by rw [eC 1004 (by omega) (by omega)]; exact b3, ⟨by rw [eC 1004 (by omega) (by omega)]; exact d1, by rw [e32]; exact d2, d3⟩, ⟨by rw [eC (x + 19) (by omega) (by omega)]; exact n1, by rw [ey 27 (by decide)]; exact n2, n3⟩, ⟨by rw [eC (x + 19) (by omega) (by omega)]; exact k1, by rw [ey 31 (by decide)]; exact k2, k3⟩, ⟨by rw [ey 34 (by decide)]; exact u1, u2⟩, fun hK => ⟨hL hK, (b8 hK).2.1, ?_, fun c' hc' => ?_, ?_⟩⟩
  · rw [e32]; exact b2.2
  · have hK0 : ¬ K = 0 := by omega
    unfold tlC; rw [if_neg hK0, hIo (by omega)]; exact (b8 hK).2.2.1
  · have hK0 : ¬ K = 0 := by omega
    unfold tlC; rw [if_neg hK0]; exact (b8 hK).2.2.2.1 c' hc'
  · have hK0 : ¬ K = 0 := by omega
    have e6 : (tlC x K c i s).2.1 1006 = s.2.1 1006 := by unfold tlC; rw [if_neg hK0]; rfl
    rw [eC 1004 (by omega) (by omega), e32, e6]; exact (b8 hK).2.2.2.2
theorem tell_ok (hn : 5000 ≤ n) (hS : S0 U len x y s0 t0) (hK01 : K ≤ 1) (h : ER U len x y s0 t0 K np tz G bl ub q dp nd cd us s t) (hD : DT x y K cnt N s t) (hc : c < 9) (H : Hb (fun u => u.2) K np y tz (f174 n (nI c) t)) : Rs (fun f z p => p.1 = -1 ∧ FC len x s0 f z p.2) (fun f z p => FM len y t0 f z p.2) (ZB K y tz) (fun p w => (p.1 = nI (cnt c) ∧ w.1 = nI (cnt c)) ∧ q < len ∧ (dCn cnt c < zmnp c) ∧ ER U len x y s0 t0 K np tz G bl ub (tkNx U len q) dp nd cd us p.2 w.2 ∧ DT x y K (uN cnt c (cnt c + 1)) (N + 1) p.2 w.2 ∧ tF x y s t p.2 w.2) (f34 n (nI c) s) (f174 n (nI c) t) := by
  have hx := hS.1
  have hy := hS.2.1
  obtain ⟨hq, hU, -⟩ := ER_q h
  obtain ⟨g0, g1, g2⟩ := hD.1 c hc
  have hN := DT_N hD
  have hmm := DT_m hD hc
  have hz8 := (zmn_z ⟨c, hc⟩).2
  simp only at hz8
  have hzm : zmost.getD c 0 = nI (zmnp c) := (zmn_z ⟨c, hc⟩).1
  have hzc : zin? (nI c) 9 = true := zin_nI hc (by decide)
  have hnc : nx (nI c) = c := nx_nI (by omega)
  obtain ⟨mt1, mt2⟩ := m_tell (n := n) hn hS h hD hc
  by_cases hk : tkKind U len q = 1
  · have hk0 : ¬ tkKind U len q = 0 := by rw [hk]; decide
    have hql := tk_lt h (by rw [hk]; decide)
    obtain ⟨-, hnmT, -, -⟩ := m_k1p h (Or.inl hk)
    have hnm : t.2.1 1132 6 = s.2.1 1001 7 := by
      rw [hnmT]
      have hl := (k_lf hU hq (Or.inl hk))
      have hlt : zltU (U q) = true := by
        rcases tk_cases hU hq with ⟨e, -, -⟩ | ⟨-, e, -⟩ | ⟨-, hl, -, -⟩ | ⟨-, hl, -⟩ | ⟨-, -, -, e, -⟩ | ⟨-, a, b, -, -, -⟩
        · omega
        · rw [hk] at e; exact absurd e (by decide)
        · exact hl
        · exact hl
        · rw [hk] at e; exact absurd e (by decide)
        · rcases hl.2 with e | e
          · exact absurd e a
          · exact absurd e b
      exact (h.1.2.1.2.2.2.2.2.2.1 hql hlt).symm
    obtain ⟨mt3, mt4⟩ := mt2 hk
    have hrow := (BC_rf hS h.1.1)
    have c34 : f34 n (nI c) s = if K = 0 then f34_60 n (nI c) (nI (cnt c)) (nI (dCn cnt c)) s else f34_129 n (nI c) (nI (cnt c)) s := by
      unfold f34 f34_42
      rw [ER_k h, hk, if_pos rfl, if_pos hzc, hnc, g0, h.2.2.1]
      show (if nI K = 0 then _ else _) = _
      by_cases e0 : K = 0
      · rw [if_pos (by rw [e0]; rfl), if_pos e0]
        have z5 : zin? (5 : Int32) 9 = true := by decide
        have z6 : zin? (6 : Int32) 9 = true := by decide
        rw [if_pos z5, if_pos z6, show nx (5 : Int32) = 5 from rfl, show nx (6 : Int32) = 6 from rfl, (hD.1 5 (by omega)).1, (hD.1 6 (by omega)).1, naddN]
        by_cases e5 : c = 5
        · subst e5; rw [if_pos (show nI 5 = 5 from rfl)]; rfl
        · rw [if_neg (show ¬ nI c = (5 : Int32) from fun e => e5 ((nIe (u := c) (k := 5) (by omega) (by decide)).mp e))]
          by_cases e6 : c = 6
          · subst e6; rw [if_pos (show nI 6 = 6 from rfl)]; rfl
          · rw [if_neg (show ¬ nI c = (6 : Int32) from fun e => e6 ((nIe (u := c) (k := 6) (by omega) (by decide)).mp e))]
            unfold dCn
            rw [if_neg (by omega)]
      · rw [if_neg (show ¬ nI K = (0 : Int32) from fun e => e0 ((nIe (u := K) (k := 0) (by omega) (by decide)).mp e)), if_neg e0]
    have c129 : ∀ u : zσ, f34_129 n (nI c) (nI (cnt c)) u = yb0 (f26 n (sI u 1005 c (nI (cnt c + 1)))) fun u2 => some (nI (cnt c), u2) := fun u => by
      unfold f34_129
      rw [if_pos hzc, hnc, nI_1]; rfl
    -- the way on, for both
    have hgo : dCn cnt c < zmnp c → f34 n (nI c) s = (yb0 (f26 n (tlC x K c (cnt c) s)) fun u2 => some (nI (cnt c), u2)) → (∀ k, k < N → ¬ t.2.1 (y + 1) k = t.2.1 1132 6) → Rs (fun f z p => p.1 = -1 ∧ FC len x s0 f z p.2) (fun f z p => FM len y t0 f z p.2) (ZB K y tz) (fun p w => (p.1 = nI (cnt c) ∧ w.1 = nI (cnt c)) ∧ q < len ∧ (dCn cnt c < zmnp c) ∧ ER U len x y s0 t0 K np tz G bl ub (tkNx U len q) dp nd cd us p.2 w.2 ∧ DT x y K (uN cnt c (cnt c + 1)) (N + 1) p.2 w.2 ∧ tF x y s t p.2 w.2) (f34 n (nI c) s) (f174 n (nI c) t) := fun hlt ec hno => by
      have em := (mt4 (by omega)).2 hno
      have hE1 := ER_tl (N := N) (i := cnt c) hS hK01 h hc
      obtain ⟨s2, e1, c1, o1⟩ := c_adv hn hE1.1.2
      obtain ⟨t2, e2, c2, o2⟩ := m_next hn hE1.2.1.2
      have e24 : t2.1 (y + 4) c = nI (cnt c + 1) := by rw [(o2.1 (y + 4) (by omega)).1]; exact hIe
      have em2 : f174 n (nI c) t = some (nI (cnt c), t2) := by rw [em, e2, yb0_s, e24, nI_pred]
      have hEN := er_tok hS hE1 c1 o1 c2 (frT_N o2) (Hb_L1 H em2)
      have sC : ∀ a, a ≠ 1001 → a ≠ 1005 → a ≠ x + 11 → s2.1 a = s.1 a := fun a a1 a2 a3 => by
        rw [(o1.1 a a1).1]
        unfold tlC
        split
        · rw [hIo a2, hIo a3]; rfl
        · rw [hIo a2]
      have tM : ∀ a, a ≠ 1132 → a ≠ y → a ≠ y + 2 → a ≠ y + 3 → a ≠ y + 4 → t2.1 a = t.1 a := fun a a1 a2 a3 a4 a5 => by
        rw [(o2.1 a a1).1]
        unfold tlM
        rw [hIo a5, hIo a2, hIo a4, hIo a3]; rfl
      have s5 : ∀ c', s2.1 1005 c' = if c' = c then nI (cnt c + 1) else s.1 1005 c' := fun c' => by
        rw [(o1.1 1005 (by decide)).1]
        unfold tlC
        by_cases e : c' = c
        · subst e; rw [if_pos rfl]; split <;> exact hIe
        · rw [if_neg e]
          split
          · rw [hIk e, hIo (by omega)]; rfl
          · rw [hIk e]
      have t4 : ∀ c', t2.1 (y + 4) c' = if c' = c then nI (cnt c + 1) else t.1 (y + 4) c' := fun c' => by
        rw [(o2.1 (y + 4) (by omega)).1]
        unfold tlM
        by_cases e : c' = c
        · subst e; rw [if_pos rfl]; exact hIe
        · rw [if_neg e, hIk e, hIo (by omega), hIo (by omega), hIo (by omega)]; rfl
      have hct : ∀ c', uN cnt c (cnt c + 1) c' = if c' = c then cnt c + 1 else cnt c' := fun c' => rfl
      refine Rs_A (a := (nI (cnt c), s2)) (b := (nI (cnt c), t2)) (by rw [ec, e1]; rfl) em2 ⟨⟨rfl, rfl⟩, hql, hlt, hEN.2, ⟨fun c' hc' => ?_, ?_, ⟨?_, ?_⟩, fun hK0 => ?_⟩, ⟨⟨sC, fun a a1 a2 => ?_, ?_⟩, tM, fun a a1 a2 => ?_, ?_, fun k hk => ?_, fun k b1 b2 b3 b4 b5 b6 b7 => ?_⟩⟩
      · rw [s5, t4, hct]
        have hcz : cnt c + 1 ≤ 8 := by
          have h1 : cnt c ≤ dCn cnt c := by
            unfold dCn
            split
            · rename_i h2; rcases h2 with rfl | rfl <;> omega
            · omega
          omega
        by_cases e : c' = c
        · rw [if_pos e, if_pos e, if_pos e]; exact ⟨rfl, rfl, hcz⟩
        · rw [if_neg e, if_neg e, if_neg e]; exact hD.1 c' hc'
      · have hb := hD.2.1
        rw [hct, hct, hct, hct, hct, hct, hct]
        have : c = 0 ∨ c = 1 ∨ c = 2 ∨ c = 3 ∨ c = 4 ∨ c = 5 ∨ c = 6 ∨ c = 7 ∨ c = 8 := by omega
        rcases this with rfl | rfl | rfl | rfl | rfl | rfl | rfl | rfl | rfl
        · exact hb
        · have : cnt 1 < 4 := hlt
          refine ⟨?_, hb.2⟩; show cnt 1 + 1 ≤ 4; omega
        · have : cnt 2 < 4 := hlt
          refine ⟨hb.1, ?_, hb.2.2⟩; show cnt 2 + 1 ≤ 4; omega
        · have : cnt 3 < 4 := hlt
          refine ⟨hb.1, hb.2.1, ?_, hb.2.2.2⟩; show cnt 3 + 1 ≤ 4; omega
        · have : cnt 4 < 4 := hlt
          refine ⟨hb.1, hb.2.1, hb.2.2.1, ?_, hb.2.2.2.2⟩; show cnt 4 + 1 ≤ 4; omega
        · have : cnt 5 + cnt 6 < 4 := hlt
          refine ⟨hb.1, hb.2.1, hb.2.2.1, hb.2.2.2.1, ?_, hb.2.2.2.2.2⟩; show cnt 5 + 1 + cnt 6 ≤ 4; omega
        · have : cnt 5 + cnt 6 < 4 := hlt
          refine ⟨hb.1, hb.2.1, hb.2.2.1, hb.2.2.2.1, ?_, hb.2.2.2.2.2⟩; show cnt 5 + (cnt 6 + 1) ≤ 4; omega
        · have : cnt 7 < 6 := hlt
          refine ⟨hb.1, hb.2.1, hb.2.2.1, hb.2.2.2.1, hb.2.2.2.2.1, ?_⟩; show cnt 7 + 1 ≤ 6; omega
        · exact hb
      · rw [(o2.1 y (by omega)).1]
        unfold tlM
        rw [hIo (by omega), hIe]
      · have hN2 := hD.2.2.1.2
        have : c = 0 ∨ c = 1 ∨ c = 2 ∨ c = 3 ∨ c = 4 ∨ c = 5 ∨ c = 6 ∨ c = 7 ∨ c = 8 := by omega
        rcases this with rfl | rfl | rfl | rfl | rfl | rfl | rfl | rfl | rfl
        · show N + 1 = (cnt 0 + 1) + cnt 1 + cnt 2 + cnt 3 + cnt 4 + cnt 5 + cnt 6 + cnt 7 + cnt 8; omega
        · show N + 1 = cnt 0 + (cnt 1 + 1) + cnt 2 + cnt 3 + cnt 4 + cnt 5 + cnt 6 + cnt 7 + cnt 8; omega
        · show N + 1 = cnt 0 + cnt 1 + (cnt 2 + 1) + cnt 3 + cnt 4 + cnt 5 + cnt 6 + cnt 7 + cnt 8; omega
        · show N + 1 = cnt 0 + cnt 1 + cnt 2 + (cnt 3 + 1) + cnt 4 + cnt 5 + cnt 6 + cnt 7 + cnt 8; omega
        · show N + 1 = cnt 0 + cnt 1 + cnt 2 + cnt 3 + (cnt 4 + 1) + cnt 5 + cnt 6 + cnt 7 + cnt 8; omega
        · show N + 1 = cnt 0 + cnt 1 + cnt 2 + cnt 3 + cnt 4 + (cnt 5 + 1) + cnt 6 + cnt 7 + cnt 8; omega
        · show N + 1 = cnt 0 + cnt 1 + cnt 2 + cnt 3 + cnt 4 + cnt 5 + (cnt 6 + 1) + cnt 7 + cnt 8; omega
        · show N + 1 = cnt 0 + cnt 1 + cnt 2 + cnt 3 + cnt 4 + cnt 5 + cnt 6 + (cnt 7 + 1) + cnt 8; omega
        · show N + 1 = cnt 0 + cnt 1 + cnt 2 + cnt 3 + cnt 4 + cnt 5 + cnt 6 + cnt 7 + (cnt 8 + 1); omega
      · obtain ⟨q1, q2, q3, q4⟩ := hD.2.2.2 hK0
        have s11 : ∀ c', s2.1 (x + 11) c' = if c' = c then nI (cnt c + 1) else s.1 (x + 11) c' := fun c' => by
          rw [(o1.1 (x + 11) (by omega)).1]
          unfold tlC
          rw [if_pos hK0, hIo (by omega)]
          by_cases e : c' = c
          · subst e; rw [if_pos rfl]; exact hIe
          · rw [if_neg e, hIk e]; rfl
        have sJn : ∀ c' i, c' < 9 → s2.2.1 (x + 2 + c') i = if c' = c ∧ i = cnt c then s.2.1 1001 7 else s.2.1 (x + 2 + c') i := fun c' i h1 => by
          rw [(o1.1 (x + 2 + c') (by omega)).2.1]
          unfold tlC
          rw [if_pos hK0]
          show (sJ s (x + 2 + c) (cnt c) (s.2.1 1001 7)).2.1 (x + 2 + c') i = _
          rw [gJ]
          by_cases e : c' = c ∧ i = cnt c
          · rw [if_pos ⟨by omega, e.2⟩, if_pos e]
          · rw [if_neg (fun h => e ⟨by omega, h.2⟩), if_neg e]
        have tJ1 : ∀ k, t2.2.1 (y + 1) k = if k = N then t.2.1 1132 6 else t.2.1 (y + 1) k := fun k => by
          rw [(o2.1 (y + 1) (by omega)).2.1]
          show (sJ t (y + 1) N (t.2.1 1132 6)).2.1 (y + 1) k = _
          rw [gJ]
          by_cases e : k = N
          · rw [if_pos ⟨rfl, e⟩, if_pos e]
          · rw [if_neg (fun h => e h.2), if_neg e]
        have tI2 : ∀ k, t2.1 (y + 2) k = if k = N then nI c else t.1 (y + 2) k := fun k => by
          rw [(o2.1 (y + 2) (by omega)).1]
          unfold tlM
          rw [hIo (by omega), hIo (by omega), hIo (by omega)]
          by_cases e : k = N
          · subst e; rw [if_pos rfl]; exact hIe
          · rw [if_neg e, hIk e]; rfl
        have tI3 : ∀ k, t2.1 (y + 3) k = if k = N then nI (cnt c) else t.1 (y + 3) k := fun k => by
          rw [(o2.1 (y + 3) (by omega)).1]
          unfold tlM
          rw [hIo (by omega), hIo (by omega)]
          by_cases e : k = N
          · subst e; rw [if_pos rfl]; exact hIe
          · rw [if_neg e, hIk e, hIo (by omega)]; rfl
        refine ⟨fun c' hc' => ?_, fun k hk => ?_, fun c' i hc' hi => ?_, fun k j hk hj e => ?_⟩
        · rw [s11, hct]
          by_cases e : c' = c
          · rw [if_pos e, if_pos e]
          · rw [if_neg e, if_neg e]; exact q1 c' hc'
        · by_cases e : k = N
          · refine ⟨c, cnt c, hc, by rw [hct, if_pos rfl]; omega, ?_, ?_, ?_⟩
            · rw [tI2, if_pos e]
            · rw [tI3, if_pos e]
            · rw [sJn c (cnt c) hc, if_pos ⟨rfl, rfl⟩, tJ1, if_pos e, hnm]
          · obtain ⟨c', i, p1, p2, p3, p4, p5⟩ := q2 k (by omega)
            refine ⟨c', i, p1, ?_, ?_, ?_, ?_⟩
            · rw [hct]; split
              · rename_i h2; subst h2; omega
              · exact p2
            · rw [tI2, if_neg e]; exact p3
            · rw [tI3, if_neg e]; exact p4
            · rw [sJn c' i p1, if_neg (fun h2 => by rw [h2.1, h2.2] at p2; omega), tJ1, if_neg e]; exact p5
        · by_cases e : c' = c ∧ i = cnt c
          · refine ⟨N, by omega, ?_, ?_, ?_⟩
            · rw [tI2, if_pos rfl, e.1]
            · rw [tI3, if_pos rfl, e.2]
            · rw [sJn c' i hc', if_pos e, tJ1, if_pos rfl, hnm]
          · have hi2 : i < cnt c' := by
              rw [hct] at hi
              split at hi
              · rename_i h2
                subst h2
                have : i ≠ cnt c' := fun e2 => e ⟨rfl, e2⟩
                omega
              · exact hi
            obtain ⟨k, p1, p2, p3, p4⟩ := q3 c' i hc' hi2
            have hkN : k ≠ N := by omega
            exact ⟨k, by omega, by rw [tI2, if_neg hkN]; exact p2, by rw [tI3, if_neg hkN]; exact p3, by rw [sJn c' i hc', if_neg e, tJ1, if_neg hkN]; exact p4⟩
        · rw [tJ1, tJ1] at e
          by_cases e1 : k = N
          · by_cases e2 : j = N
            · omega
            · rw [if_pos e1, if_neg e2] at e
              exact absurd e.symm (hno j (by omega))
          · by_cases e2 : j = N
            · rw [if_neg e1, if_pos e2] at e
              exact absurd e (hno k (by omega))
            · rw [if_neg e1, if_neg e2] at e
              exact q4 k j (by omega) (by omega) e
      · rw [(o1.1 a a1).2.1]
        unfold tlC
        split
        · show (sJ s (x + 2 + c) (cnt c) (s.2.1 1001 7)).2.1 a = _
          funext j; rw [gJ, if_neg (by omega)]
        · rfl
      · rw [o1.2]
        unfold tlC
        split <;> rfl
      · rw [(o2.1 a a1).2.1]
        show (sJ t (y + 1) N (t.2.1 1132 6)).2.1 a = _
        funext j; rw [gJ, if_neg (by omega)]
      · rw [o2.2.2.2]; rfl
      · rw [(o2.1 y (by omega)).1]
        unfold tlM
        rw [hIo (by omega), hIk hk, hIo (by omega), hIo (by omega)]; rfl
      · rw [o2.2.1 k b1 b2 b3 b4 b5]
        unfold tlM
        rw [hIo (by omega), hIo (by omega), hIo (by omega), hIo (by omega)]; rfl
    have bad : ∀ f, 0 < f ∧ f < 8 → zft U len q f = f → f34 n (nI c) s = (yb1 (f32 n (nI f) s) fun v u => some (v, u)) → f174 n (nI c) t = (yb0 (f173 n (nI f) (t.1 1132 4) t) fun u => some ((0 : Int32), u)) → Rs (fun f z p => p.1 = -1 ∧ FC len x s0 f z p.2) (fun f z p => FM len y t0 f z p.2) (ZB K y tz) (fun p w => (p.1 = nI (cnt c) ∧ w.1 = nI (cnt c)) ∧ q < len ∧ (dCn cnt c < zmnp c) ∧ ER U len x y s0 t0 K np tz G bl ub (tkNx U len q) dp nd cd us p.2 w.2 ∧ DT x y K (uN cnt c (cnt c + 1)) (N + 1) p.2 w.2 ∧ tF x y s t p.2 w.2) (f34 n (nI c) s) (f174 n (nI c) t) := fun f hf hz e1 e2 => by
      obtain ⟨s2, x1, y1⟩ := er_ref (n := n) (f := f) hS h
      obtain ⟨t2, x2, y2⟩ := er_wrong (n := n) (f := f) hS hf h
      rw [hz] at y1
      exact Rs_B (f := f) (z := q) ⟨(-1, s2), by rw [e1, x1]; rfl, rfl, y1⟩ ⟨(0, t2), by rw [e2, x2]; rfl, y2⟩
    have hH1 : ∀ f, 0 < f ∧ f < 8 → K = 1 → f174 n (nI c) t = (yb0 (f173 n (nI f) (t.1 1132 4) t) fun u => some ((0 : Int32), u)) → False := fun f hf hK e => by
      obtain ⟨t2, x2, y2⟩ := er_wrong (n := n) (f := f) hS hf h
      obtain ⟨b, e3, hb⟩ := H hK
      rw [e, x2] at e3
      cases e3
      exact fm_ne y2 hb.1
    by_cases hmax : dCn cnt c = zmnp c
    · by_cases hK1 : K = 1
      · exact (hH1 3 (by decide) hK1 (mt3 hmax)).elim
      · have hK0 : K = 0 := by omega
        refine bad 3 (by decide) (zft_3 hk0) ?_ (mt3 hmax)
        rw [c34, if_pos hK0]
        unfold f34_60
        rw [if_pos hzc, hnc, hzm, if_neg (nI_nlt (by omega) (by omega))]
        rfl
    · have hlt : dCn cnt c < zmnp c := by omega
      by_cases hdup : ∃ k, k < N ∧ t.2.1 (y + 1) k = t.2.1 1132 6
      · by_cases hK1 : K = 1
        · exact (hH1 4 (by decide) hK1 ((mt4 hmax).1 hdup)).elim
        · have hK0 : K = 0 := by omega
          refine bad 4 (by decide) (if_neg hk0) ?_ ((mt4 hmax).1 hdup)
          obtain ⟨q1, q2, q3, q4⟩ := hD.2.2.2 hK0
          obtain ⟨k, k1, k2⟩ := hdup
          obtain ⟨c', i, p1, p2, p3, p4, p5⟩ := q2 k k1
          have e35 : f35 n x (s.2.1 1001 7) s = some (1, s) := (c_35 (n := n) (cnt := cnt) hn hx hrow.2.2.2 (fun c hc => ⟨q1 c hc, (hD.1 c hc).2.2⟩) 9 0 n (by omega) (by omega)).1 ⟨c', i, Nat.zero_le _, p1, p2, by rw [p5, k2, hnm]⟩
          rw [c34, if_pos hK0]
          unfold f34_60
          rw [if_pos hzc, hnc, hzm, if_pos (nI_lt hlt (by omega)), hrow.1, grd (gck9 hx).1, e35, yb1_s, if_neg n10]
          rfl
      · have hno : ∀ k, k < N → ¬ t.2.1 (y + 1) k = t.2.1 1132 6 := fun k hk e => hdup ⟨k, hk, e⟩
        refine hgo hlt ?_ hno
        rw [c34]
        by_cases hK0 : K = 0
        · obtain ⟨q1, q2, q3, q4⟩ := hD.2.2.2 hK0
          have e35 : f35 n x (s.2.1 1001 7) s = some (0, s) := (c_35 (n := n) (cnt := cnt) hn hx hrow.2.2.2 (fun c hc => ⟨q1 c hc, (hD.1 c hc).2.2⟩) 9 0 n (by omega) (by omega)).2 (fun c' i _ b1 b2 e => by
            obtain ⟨k, p1, p2, p3, p4⟩ := q3 c' i b1 b2
            exact hno k p1 (by rw [← p4, e, hnm]))
          rw [if_pos hK0]
          unfold f34_60
          rw [if_pos hzc, hnc, hzm, if_pos (nI_lt hlt (by omega)), hrow.1, grd (gck9 hx).1, e35, yb1_s, if_pos rfl, hrow.1, grd (gck9 hx).1, if_pos hzc, hrow.2.2.2 c hc, grw (zrk_r hx hc)]
          have hc8 : cnt c < 8 := by
            have h1 : cnt c ≤ dCn cnt c := by
              unfold dCn
              split
              · rename_i h2; rcases h2 with rfl | rfl <;> omega
              · omega
            omega
          rw [if_pos (zin_nI hc8 (by decide)), nx_nI (show cnt c < 2 ^ 31 by omega)]
          show zrd 9 ((sJ s (x + 2 + c) (cnt c) (s.2.1 1001 7)).2.2 1004 4) _ = _
          rw [show (sJ s (x + 2 + c) (cnt c) (s.2.1 1001 7)).2.2 1004 4 = some x from hrow.1, grd (gck9 hx).1, if_pos hzc, nI_1]
          show f34_129 n (nI c) (nI (cnt c)) (sI (sJ s (x + 2 + c) (cnt c) (s.2.1 1001 7)) (x + 11) c (nI (cnt c + 1))) = _
          rw [c129]
          unfold tlC
          rw [if_pos hK0]
        · rw [if_neg hK0, c129]
          unfold tlC
          rw [if_neg hK0]
  · obtain ⟨s2, x1, y1⟩ := er_ref (n := n) (f := 2) hS h
    obtain ⟨t2, x2, y2⟩ := er_cant (n := n) hS h
    refine Rs_B (f := zft U len q 2) (z := q) ⟨(-1, s2), ?_, rfl, y1⟩ ⟨(0, t2), by rw [mt1 hk, x2]; rfl, y2⟩
    unfold f34
    rw [ER_k h, if_neg hk, show f32 n 2 s = _ from x1]; rfl
end ZRB
