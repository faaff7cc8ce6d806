/-! both readers: the small steps -/
section ZPN
theorem zft_3 {U : Nat → Nat} {len q : Nat} (h : ¬ tkKind U len q = 0) : zft U len q 3 = 3 := if_neg h
theorem zft_6 {U : Nat → Nat} {len q : Nat} (h : ¬ tkKind U len q = 0) : zft U len q 6 = 6 := if_neg h
variable {U : Nat → Nat} {len x y n K np bl ub q dp nd cd us q2 dp2 nd2 cd2 us2 : Nat} {s0 t0 tz s t s2 t2 : zσ} {G : Nat → Nat → Nat}
theorem frE_R (hx : x = 1060 ∨ x = 1096) (h : frR s s2) : frE x s s2 := ⟨fun a c d _ _ _ => h.1 a c d, h.2.1, h.2.2.1, fun k _ c d => h.2.2.2 k c d, fun k _ _ => by rw [h.1 (x + 19) (by omega) (by omega)]⟩
theorem frE_o (hx : x = 1060 ∨ x = 1096) (h : zof s s2 1001) : frE x s s2 := frE_R hx (zof_frR h)
theorem frM_T (hy : y = 1134 ∨ y = 1170) (h : frT t t2) : frM y t t2 := ⟨fun a b _ _ => h.1 a b, fun a b _ => h.2.1 a b, h.2.2.1, fun k a b c d e f g _ => h.2.2.2 k a b c d e f g, fun k _ _ _ => by rw [h.1 y (by omega)]⟩
theorem frE_I {a k : Nat} {v : Int32} (hx : x = 1060 ∨ x = 1096) (h : a = 1004 ∧ k = 9 ∨ a = x + 19 ∧ (k = 10 ∨ k = 11) ∨ a = x + 27 ∨ a = x + 28) : frE x s (sI s a k v) := ⟨fun b _ _ _ _ _ => hIo (by omega), fun _ _ => rfl, rfl, fun j _ _ _ => hIx (by omega), fun j _ _ => hIx (by omega)⟩
theorem frM_I {a k : Nat} {v : Int32} (hy : y = 1134 ∨ y = 1170) (h : a = 1132 ∧ k = 14 ∨ a = y ∧ (k = 27 ∨ k = 31 ∨ k = 34) ∨ y + 27 ≤ a ∧ a ≤ y + 35) : frM y t (sI t a k v) := ⟨fun b _ _ _ => hIo (by omega), fun _ _ _ => rfl, rfl, fun j _ _ _ _ _ _ _ _ => hIx (by omega), fun j _ _ _ => hIx (by omega)⟩
theorem BC_of (hS : S0 U len x y s0 t0) (h : BC len x s0 s) (o : frE x s s2) (h2 : s2.1 1001 2 = nI len) (h3 : ∃ p, p ≤ len ∧ s2.1 1001 3 = nI p) (h4 : ∃ c, c ≤ 400 ∧ s2.1 (x + 19) 11 = nI c) : BC len x s0 s2 := by
  have hx := hS.1
  obtain ⟨⟨g1, g2, g3⟩, -⟩ := h
  exact ⟨⟨fun a a1 a2 a3 a4 => (o.1 a a1 a2 (by omega) (by omega) (by omega)).trans (g1 a a1 a2 a3 a4), fun a a1 a2 a3 => (o.2.1 a a1).trans (g2 a a1 a2 a3), o.2.2.1.trans g3⟩, h2, h3, h4⟩
theorem BM_of (hS : S0 U len x y s0 t0) (h : BM len y t0 t) (o : frM y t t2) (h5 : ∃ p, p ≤ len ∧ t2.1 1132 5 = nI p) : BM len y t0 t2 := by
  have hy := hS.2.1
  obtain ⟨⟨g1, g2, g3, g4, g5⟩, -⟩ := h
  exact ⟨⟨fun a a1 a2 => (o.1 a a1 (by omega) (by omega)).trans (g1 a a1 a2), fun a a1 a2 a3 a4 => (o.2.1 a a1 a4).trans (g2 a a1 a2 a3 a4), o.2.2.1.trans g3, fun k hk => (o.2.2.2.1 k (by omega) (by omega) (by omega) (by omega) (by omega) (by omega) (by omega) (by omega)).trans (g4 k hk), fun k hk => by rw [o.1 (y + 6) (by omega) (by omega) (by omega)]; exact g5 k hk⟩, h5⟩
theorem CG_2 (c1 : CG U len q s) : s.1 1001 2 = nI len := c1.1.2.1.2.1
theorem CG_3 (c1 : CG U len q s) : ∃ p, p ≤ len ∧ s.1 1001 3 = nI p := ⟨_, tkEnd_le c1.1.1, c1.1.2.2.2.2.1⟩
theorem MG_5 (c2 : MG U len q t) : ∃ p, p ≤ len ∧ t.1 1132 5 = nI p := by
  obtain ⟨p, hp, h5, -⟩ := c2.1.2.2.2.2.1
  exact ⟨p, hp, h5⟩
theorem ER_of (hS : S0 U len x y s0 t0) (h : ER U len x y s0 t0 K np tz G bl ub q dp nd cd us s t) (o1 : frE x s s2) (o2 : frM y t t2) (c1 : CG U len q2 s2) (c2 : MG U len q2 t2) (d1 : s2.1 1004 9 = nI dp2) (d2 : t2.1 1132 14 = nI dp2) (d3 : dp2 ≤ 12) (n1 : s2.1 (x + 19) 10 = nI nd2) (n2 : t2.1 y 27 = nI nd2) (n3 : nd2 ≤ 400) (k1 : s2.1 (x + 19) 11 = nI cd2) (k2 : t2.1 y 31 = nI cd2) (k3 : cd2 ≤ nd2) (u1 : t2.1 y 34 = nI us2) (u2 : us2 ≤ nd2 + ub) (hl : K = 1 → Lt np y t2 tz ∧ ∀ u, u < us2 → iO tz y u) : ER U len x y s0 t0 K np tz G bl ub q2 dp2 nd2 cd2 us2 s2 t2 := by
  have hx := hS.1
  have hy := hS.2.1
  obtain ⟨⟨b1, -⟩, ⟨b2, -⟩, h7, -, -, -, -, hK⟩ := h
  refine ⟨⟨BC_of hS b1 o1 (CG_2 c1) (CG_3 c1) ⟨cd2, by omega, k1⟩, c1⟩, ⟨BM_of hS b2 o2 (MG_5 c2), c2⟩, ?_, ⟨d1, d2, d3⟩, ⟨n1, n2, n3⟩, ⟨k1, k2, k3⟩, ⟨u1, u2⟩, fun e => ⟨(hl e).1, (hl e).2, ?_, fun c hc => ?_, ?_⟩⟩
  · rw [o1.2.2.2.1 7 (by decide) (by decide) (by decide)]; exact h7
  · rw [o1.1 (x + 11) (by omega) (by omega) (by omega) (by omega) (by omega)]; exact (hK e).2.2.1
  · rw [o1.2.1 (x + 2 + c) (by omega)]; exact (hK e).2.2.2.1 c hc
  · rw [o1.2.2.2.1 3 (by decide) (by decide) (by decide), o2.2.2.2.1 15 (by decide) (by decide) (by decide) (by decide) (by decide) (by decide) (by decide) (by decide), o1.2.1 1006 (by decide)]
    exact (hK e).2.2.2.2
theorem ER_q (h : ER U len x y s0 t0 K np tz G bl ub q dp nd cd us s t) : q ≤ len ∧ zby U len ∧ len ≤ 4000 := ⟨h.1.2.1.1, CG_by h.1.2, h.1.2.1.2.1.1⟩
theorem ER_k (h : ER U len x y s0 t0 K np tz G bl ub q dp nd cd us s t) : s.1 1001 4 = tkKind U len q := CG_k h.1.2
theorem ER_y (hS : S0 U len x y s0 t0) (h : ER U len x y s0 t0 K np tz G bl ub q dp nd cd us s t) : t.2.2 1132 12 = some y := BM_rf hS h.2.1.1
theorem ER_5 (hS : S0 U len x y s0 t0) (h : ER U len x y s0 t0 K np tz G bl ub q dp nd cd us s t) : s.2.2 1004 5 = some (x + 19) := (BC_rf hS h.1.1).2.1
theorem EC_of (o1 : frE x s s2) (o2 : frM y t t2) (h1 : s2.1 (x + 27) = s.1 (x + 27)) (h2 : s2.1 (x + 28) = s.1 (x + 28)) (h3 : t2.1 (y + 35) = t.1 (y + 35)) : EC x y K cd us us s t s2 t2 := ⟨o1, o2, fun _ p _ => ⟨by rw [h1], by rw [h2]⟩, fun _ _ => by rw [h3], fun u a b => by omega⟩
/-- both stop -/
theorem er_ref {f : Nat} (hS : S0 U len x y s0 t0) (h : ER U len x y s0 t0 K np tz G bl ub q dp nd cd us s t) : ∃ s2, f32 n (nI f) s = some (-1, s2) ∧ FC len x s0 (zft U len q f) q s2 := by
  obtain ⟨s2, e, h2, o⟩ := c_refuse (n := n) (f := f) h.1.2
  have hx := hS.1
  have e2 : s2.1 1001 2 = s.1 1001 2 ∧ s2.1 1001 3 = s.1 1001 3 := by
    unfold f32 f32_27 at e
    split at e
    · cases e; exact ⟨rfl, rfl⟩
    · split at e
      · cases e
        exact ⟨by rw [hIk (by decide), hIo (by decide), hIo (by decide)], by rw [hIk (by decide), hIo (by decide), hIo (by decide)]⟩
      · cases e
        exact ⟨by rw [hIk (by decide), hIo (by decide), hIo (by decide)], by rw [hIk (by decide), hIo (by decide), hIo (by decide)]⟩
  refine ⟨s2, e, BC_of hS h.1.1 (frE_R hx o) ?_ ?_ ?_, h2⟩
  · rw [e2.1]; exact CG_2 h.1.2
  · rw [e2.2]; exact CG_3 h.1.2
  · rw [o.1 (x + 19) (by omega) (by omega)]; exact h.1.1.2.2.2
theorem er_mf {f : Nat} (hS : S0 U len x y s0 t0) (h : ER U len x y s0 t0 K np tz G bl ub q dp nd cd us s t) (g : MF f q t2) (o : frT t t2) (h5 : t2.1 1132 5 = t.1 1132 5) : FM len y t0 f q t2 := ⟨BM_of hS h.2.1.1 (frM_T hS.2.1 o) (by rw [h5]; exact MG_5 h.2.1.2), g⟩
theorem wrong_5 {a b : Int32} (e : f173 n a b t = some t2) : t2.1 1132 5 = t.1 1132 5 := by
  unfold f173 at e
  split at e
  · cases e; rw [hIk (by decide), hIk (by decide)]
  · cases e; rfl
theorem cant_5 (e : f172 n t = some t2) : t2.1 1132 5 = t.1 1132 5 := by
  have h : ∀ v : Int32, f172_14 n v t = some t2 → t2.1 1132 5 = t.1 1132 5 := fun v e => by
    unfold f172_14 at e
    cases hw : f173 n v (t.1 1132 4) t with
    | none => rw [hw] at e; cases e
    | some u => rw [hw] at e; cases e; exact wrong_5 hw
  unfold f172 at e
  split at e
  · exact h _ e
  · exact h _ e
theorem er_wrong {f : Nat} (hS : S0 U len x y s0 t0) (hf : 0 < f ∧ f < 8) (h : ER U len x y s0 t0 K np tz G bl ub q dp nd cd us s t) : ∃ t2, f173 n (nI f) (t.1 1132 4) t = some t2 ∧ FM len y t0 f q t2 := by
  obtain ⟨t2, e, g, o⟩ := m_wrong (n := n) hf h.2.1.2
  exact ⟨t2, e, er_mf hS h g o (wrong_5 e)⟩
theorem er_cant (hS : S0 U len x y s0 t0) (h : ER U len x y s0 t0 K np tz G bl ub q dp nd cd us s t) : ∃ t2, f172 n t = some t2 ∧ FM len y t0 (zft U len q 2) q t2 := by
  obtain ⟨t2, e, g, o⟩ := m_cant (n := n) h.2.1.2
  exact ⟨t2, e, er_mf hS h g o (cant_5 e)⟩
/-- the next token -/
theorem er_tok (hS : S0 U len x y s0 t0) (h : ER U len x y s0 t0 K np tz G bl ub q dp nd cd us s t) (c1 : CG U len q2 s2) (o1 : zof s s2 1001) (c2 : MG U len q2 t2) (o2 : frT t t2) (hl : K = 1 → Lt np y t2 tz) : EN U len x y s0 t0 K np tz G bl ub cd us q2 dp nd cd us s t s2 t2 := by
  have hx := hS.1
  have hy := hS.2.1
  obtain ⟨-, -, -, ⟨d1, d2, d3⟩, ⟨n1, n2, n3⟩, ⟨k1, k2, k3⟩, ⟨u1, u2⟩, hK⟩ := id h
  refine ⟨EC_of (frE_o hx o1) (frM_T hy o2) (o1.1 _ (by omega)).1 (o1.1 _ (by omega)).1 (o2.1 _ (by omega)), ER_of hS h (frE_o hx o1) (frM_T hy o2) c1 c2 ?_ ?_ d3 ?_ ?_ n3 ?_ ?_ k3 ?_ u2 (fun e => ⟨hl e, (hK e).2.1⟩)⟩
  · rw [(o1.1 1004 (by decide)).1]; exact d1
  · rw [o2.2.2.2 14 (by decide) (by decide) (by decide) (by decide) (by decide) (by decide) (by decide)]; exact d2
  · rw [(o1.1 (x + 19) (by omega)).1]; exact n1
  · rw [o2.1 y (by omega)]; exact n2
  · rw [(o1.1 (x + 19) (by omega)).1]; exact k1
  · rw [o2.1 y (by omega)]; exact k2
  · rw [o2.1 y (by omega)]; exact u1
theorem Hb_L {pm : zσ → zσ} {m : Option zσ} (H : Hb pm K np y tz m) (e : m = some t2) : K = 1 → Lt np y (pm t2) tz := fun hK => by
  obtain ⟨b, e2, hb⟩ := H hK
  rw [e] at e2; cases e2; exact hb
theorem Hb_L1 {v : Int32} {m : Option (Int32 × zσ)} (H : Hb (fun u => u.2) K np y tz m) (e : m = some (v, t2)) : K = 1 → Lt np y t2 tz := fun hK => by
  obtain ⟨b, e2, hb⟩ := H hK
  rw [e] at e2; cases e2; exact hb
theorem er_next (hn : 5000 ≤ n) (hS : S0 U len x y s0 t0) (h : ER U len x y s0 t0 K np tz G bl ub q dp nd cd us s t) (H : Hb (fun u => u) K np y tz (f164 n t)) : Rs (FC len x s0) (FM len y t0) (ZB K y tz) (EN U len x y s0 t0 K np tz G bl ub cd us (tkNx U len q) dp nd cd us s t) (f26 n s) (f164 n t) := by
  obtain ⟨s2, e1, c1, o1⟩ := c_adv hn h.1.2
  obtain ⟨t2, e2, c2, o2⟩ := m_next hn h.2.1.2
  exact Rs_A e1 e2 (er_tok hS h c1 o1 c2 (frT_N o2) (Hb_L H e2))
/-- want -/
theorem er_want {c : Nat} (hn : 5000 ≤ n) (hS : S0 U len x y s0 t0) (hc : zsg c = true) (hc2 : c < 126) (h : ER U len x y s0 t0 K np tz G bl ub q dp nd cd us s t) (H : Hb (fun u => u) K np y tz (f179 n (nI c) t)) : Rs (FC len x s0) (FM len y t0) (ZB K y tz) (fun a b => (q < len ∧ tkKind U len q = nI c) ∧ EN U len x y s0 t0 K np tz G bl ub cd us (tkNx U len q) dp nd cd us s t a b) (f37 n (nI c) s) (f179 n (nI c) t) := by
  obtain ⟨hq, hU, -⟩ := ER_q h
  by_cases e : tkKind U len q = nI c
  · obtain ⟨s2, e1, c1, o1⟩ := (c_want hn h.1.2).1 e
    obtain ⟨t2, e2, c2, o2⟩ := (m_want hn hc hc2 h.2.1.2).1 e
    exact Rs_A e1 e2 ⟨⟨((tk_byte hU hq hc hc2).mp e).1, e⟩, er_tok hS h c1 o1 c2 o2 (Hb_L H e2)⟩
  · obtain ⟨s2, e1, g1⟩ := er_ref (n := n) (f := 2) hS h
    obtain ⟨t2, e2, g2⟩ := er_cant (n := n) hS h
    refine Rs_B (f := zft U len q 2) (z := q) ⟨s2, ?_, g1⟩ ⟨t2, ?_, g2⟩
    · unfold f37
      rw [ER_k h, if_neg e, show f32 n 2 s = _ from e1]; rfl
    · unfold f179
      rw [m_goes h.2.1.2.2, yb1_s, if_neg (by decide), tm_sign h.2.1.2.1 hc hc2, yb1_s, zone_0 e, if_pos rfl, e2]; rfl
/-- a node is counted -/
theorem er_195 (hS : S0 U len x y s0 t0) (h : ER U len x y s0 t0 K np tz G bl ub q dp nd cd us s t) : (nd < 400 → f195 n t = some (sI t y 27 (nI (nd + 1)))) ∧ (nd = 400 → ∃ t2, f195 n t = some t2 ∧ FM len y t0 3 q t2) := by
  obtain ⟨n1, n2, n3⟩ := h.2.2.2.2.1
  have hg := m_goes (n := n) h.2.1.2.2
  constructor
  · intro hlt
    unfold f195 f195_29 f195_49
    rw [hg, yb1_s, if_neg (by decide), ER_y hS h, grd (gck12 hS.2.1), n2, if_neg (fun e => by have := (nI_eq (a := nd) (b := 400) (by omega) (by decide)).mp e; omega), grd (gck12 hS.2.1), hg, yb1_s, if_neg (by decide)]
    show some (sI t y 27 (t.1 y 27 + 1)) = _
    rw [n2, nI_1]
  · intro e
    subst e
    obtain ⟨t2, e2, g2⟩ := er_wrong (n := n) (f := 3) hS (by decide) h
    refine ⟨t2, ?_, g2⟩
    have h2 := fms_195 (P := fun b => b = t2) (n := n) (k := fun u => some u) hS g2 ⟨t2, rfl, rfl⟩
    obtain ⟨b, hb, rfl⟩ := h2
    rw [y0s] at hb
    unfold f195 at hb ⊢
    rw [m_goes0 (fm_ne g2), yb1_s, if_pos rfl] at hb
    rw [hg, yb1_s, if_neg (by decide), ER_y hS h, grd (gck12 hS.2.1), n2, if_pos (show nI 400 = 400 from rfl), show f173 n 3 (t.1 1132 4) t = _ from e2, yb0_s]
    exact hb
theorem CG_I {a k : Nat} {v : Int32} (h1 : a ≠ 1001) (h2 : a ≠ 1002) (h3 : ¬ (a = 1004 ∧ k = 10)) (h : CG U len q s) : CG U len q (sI s a k v) := ⟨TC_fr h.1 (hIo h1.symm) (hIo h2.symm) rfl rfl, by rw [hIx (by omega)]; exact h.2⟩
theorem MG_I {a k : Nat} {v : Int32} (h1 : ¬ (a = 1132 ∧ (k = 1 ∨ k = 3 ∨ k = 4 ∨ k = 5 ∨ k = 7 ∨ k = 8 ∨ k = 9))) (h2 : a ≠ 1133) (h : MG U len q t) : MG U len q (sI t a k v) := ⟨TM_fr h.1 (fun j hj => hIx (by omega)) (hIo h2.symm) rfl, by rw [hIx (by omega)]; exact h.2⟩
theorem MG_J {a k : Nat} {v : Int64} (h1 : a ≠ 1132) (h : MG U len q t) : MG U len q (sJ t a k v) := ⟨TM_fr h.1 (fun j hj => rfl) rfl (by rw [gJ, if_neg (by omega)]), h.2⟩
theorem er_nd (hS : S0 U len x y s0 t0) (h : ER U len x y s0 t0 K np tz G bl ub q dp nd cd us s t) (hlt : nd < 400) (hl : K = 1 → Lt np y (sI t y 27 (nI (nd + 1))) tz) : EN U len x y s0 t0 K np tz G bl ub cd us q dp (nd + 1) cd us s t (sI s (x + 19) 10 (nI (nd + 1))) (sI t y 27 (nI (nd + 1))) := by
  have hx := hS.1
  have hy := hS.2.1
  obtain ⟨-, -, -, ⟨d1, d2, d3⟩, ⟨n1, n2, n3⟩, ⟨k1, k2, k3⟩, ⟨u1, u2⟩, hK⟩ := id h
  have o1 : frE x s (sI s (x + 19) 10 (nI (nd + 1))) := frE_I hx (by omega)
  have o2 : frM y t (sI t y 27 (nI (nd + 1))) := frM_I hy (by omega)
  refine ⟨EC_of o1 o2 (hIo (by omega)) (hIo (by omega)) (hIo (by omega)), ER_of hS h o1 o2 (CG_I (by omega) (by omega) (by omega) h.1.2) (MG_I (by omega) (by omega) h.2.1.2) ?_ ?_ d3 hIe hIe (by omega) ?_ ?_ (by omega) ?_ (by omega) (fun e => ⟨hl e, (hK e).2.1⟩)⟩
  · rw [hIo (by omega)]; exact d1
  · rw [hIo (by omega)]; exact d2
  · rw [hIk (by decide)]; exact k1
  · rw [hIk (by decide)]; exact k2
  · rw [hIk (by decide)]; exact u1
theorem er_cnt (hS : S0 U len x y s0 t0) (h : ER U len x y s0 t0 K np tz G bl ub q dp nd cd us s t) (hk : ¬ tkKind U len q = 0) (H : Hb (fun u => u) K np y tz (f195 n t)) : Rs (FC len x s0) (FM len y t0) (ZB K y tz) (fun a b => nd < 400 ∧ EN U len x y s0 t0 K np tz G bl ub cd us q dp (nd + 1) cd us s t a b) (f53 n s) (f195 n t) := by
  obtain ⟨n1, n2, n3⟩ := h.2.2.2.2.1
  by_cases hlt : nd < 400
  · have e2 := (er_195 (n := n) hS h).1 hlt
    refine Rs_A (a := sI s (x + 19) 10 (nI (nd + 1))) ?_ e2 ⟨hlt, er_nd hS h hlt (Hb_L H e2)⟩
    unfold f53
    rw [ER_5 hS h, grd (gck9 hS.1).2.1, grd (gck9 hS.1).2.1, n1, if_pos (show nI nd < 400 from nI_lt (b := 400) hlt (by decide))]
    show some (sI s (x + 19) 10 (nI nd + 1)) = _
    rw [nI_1]
  · obtain ⟨t2, e2, g2⟩ := (er_195 (n := n) hS h).2 (by omega)
    obtain ⟨s2, e1, g1⟩ := er_ref (n := n) (f := 3) hS h
    rw [zft_3 hk] at g1
    refine Rs_B ⟨s2, ?_, g1⟩ ⟨t2, e2, g2⟩
    unfold f53
    rw [ER_5 hS h, grd (gck9 hS.1).2.1, n1, if_neg (show ¬ nI nd < 400 from nI_nlt (b := 400) (by omega) (by omega)), show f32 n 3 s = _ from e1]; rfl
theorem er_node (hn : 5000 ≤ n) (hS : S0 U len x y s0 t0) (h : ER U len x y s0 t0 K np tz G bl ub q dp nd cd us s t) (hk : ¬ tkKind U len q = 0) (H : Hb (fun u => u) K np y tz (yb0 (f195 n t) (f164 n))) : Rs (FC len x s0) (FM len y t0) (ZB K y tz) (fun a b => nd < 400 ∧ EN U len x y s0 t0 K np tz G bl ub cd us (tkNx U len q) dp (nd + 1) cd us s t a b) (f58 n s) (yb0 (f195 n t) (f164 n)) := by
  obtain ⟨n1, n2, n3⟩ := h.2.2.2.2.1
  have hk4 : ¬ s.1 1001 4 = 4 := by rw [ER_k h]; exact tk_ne4 (ER_q h).2.1 (ER_q h).1
  by_cases hlt : nd < 400
  · have e2 := (er_195 (n := n) hS h).1 hlt
    have H2 : Hb (fun u => u) K np y tz (f195 n t) := H_0 (pm := fun u => u) H (ER_y hS h) (b195 hS.2.1) (fun u => b164 hS.2.1)
    rw [e2] at H ⊢
    obtain ⟨c1, h1⟩ := er_nd hS h hlt (Hb_L H2 e2)
    refine Rs_w (A := EN U len x y s0 t0 K np tz G bl ub cd us (tkNx U len q) dp (nd + 1) cd us (sI s (x + 19) 10 (nI (nd + 1))) (sI t y 27 (nI (nd + 1)))) (c := f58 n s) ?_ (fun a b _ _ hab => ⟨hlt, EC_tr c1 hab.1 (by omega) (by omega), hab.2⟩)
    have e3 : f58 n s = f26 n (sI s (x + 19) 10 (nI (nd + 1))) := by
      unfold f58
      rw [ER_5 hS h, grd (gck9 hS.1).2.1, grd (gck9 hS.1).2.1, n1, if_pos (show nI nd < 400 from nI_lt (b := 400) hlt (by decide)), if_neg hk4]
      show yb0 (f26 n (sI s (x + 19) 10 (nI nd + 1))) _ = _
      rw [nI_1, y0s]
    rw [e3]
    exact er_next hn hS h1 H
  · obtain ⟨t2, e2, g2⟩ := (er_195 (n := n) hS h).2 (by omega)
    obtain ⟨s2, e1, g1⟩ := er_ref (n := n) (f := 3) hS h
    rw [zft_3 hk] at g1
    refine Rs_B ⟨s2, ?_, g1⟩ (fw_y0 ⟨t2, e2, g2⟩ (fun u hu => ?_))
    · unfold f58
      rw [ER_5 hS h, grd (gck9 hS.1).2.1, n1, if_neg (show ¬ nI nd < 400 from nI_nlt (b := 400) (by omega) (by omega)), show f32 n 3 s = _ from e1]; rfl
    · have := fms_164 (k := fun u => some u) hn hS hu (fun u hu => fw_some hu)
      rw [y0s] at this; exact this
end ZPN
