/-! statements, both readers: steps -/
section ZPV
/-- s2 is s but for what a statement or block makes: na statements, nb blocks, cd codes there were -/
def LC (x K na nb cd : Nat) (s s2 : zσ) : Prop := (∀ a, a ≠ 1001 → a ≠ 1004 → (a < x + 19 ∨ x + 35 < a) → s2.1 a = s.1 a) ∧ (∀ a, a ≠ 1001 → s2.2.1 a = s.2.1 a) ∧ s2.2.2 = s.2.2 ∧ (∀ k, k ≠ 9 → k ≠ 10 → k ≠ 11 → k ≠ 12 → s2.1 1004 k = s.1 1004 k) ∧ (s2.1 1004 12 = -1 → s.1 1004 12 = -1) ∧ (∀ a r, x + 20 ≤ a → a ≤ x + 26 → r < na → s2.1 a r = s.1 a r) ∧ (∀ a b, x + 30 ≤ a → a ≤ x + 35 → b < nb → s2.1 a b = s.1 a b) ∧ (K = 1 → ∀ p, p < cd → s2.1 (x + 27) p = s.1 (x + 27) p ∧ s2.1 (x + 28) p = s.1 (x + 28) p)
def LM (y na nb : Nat) (t t2 : zσ) : Prop := (∀ a, a ≠ 1132 → a ≠ y → (a < y + 13 ∨ y + 35 < a) → t2.1 a = t.1 a) ∧ (∀ a, a ≠ 1132 → a ≠ y + 29 → t2.2.1 a = t.2.1 a) ∧ t2.2.2 = t.2.2 ∧ (∀ k, k ≠ 3 → k ≠ 4 → k ≠ 5 → k ≠ 7 → k ≠ 8 → k ≠ 9 → k ≠ 10 → k ≠ 14 → t2.1 1132 k = t.1 1132 k) ∧ (∀ k, k ≠ 13 → k ≠ 16 → k ≠ 27 → k ≠ 28 → k ≠ 31 → k ≠ 34 → t2.1 y k = t.1 y k) ∧ (∀ a r, (y + 15 ≤ a ∧ a ≤ y + 20 ∨ a = y + 23 ∨ a = y + 24) → r < na → t2.1 a r = t.1 a r) ∧ (∀ a k, (a = y + 21 ∨ a = y + 22) → k < 4 * na → t2.1 a k = t.1 a k) ∧ (∀ b, b < nb → t2.1 (y + 13) b = t.1 (y + 13) b) ∧ (∀ k, k < 20 * nb → t2.1 (y + 14) k = t.1 (y + 14) k)
variable {U : Nat → Nat} {len x y n K np bl ub q dp nd cd us es na nb q2 dp2 nd2 cd2 us2 r nb0 cd0 mE na2 nb2 : Nat} {s0 t0 tz s t s2 t2 s3 t3 sS tS : zσ} {G : Nat → Nat → Nat} {c m L E : Nat → Int32} {cs : Nat → Nat}
theorem n10 : ¬ (1 : Int32) = 0 := by decide
theorem LC_rf : LC x K na nb cd s s := ⟨fun _ _ _ _ => rfl, fun _ _ => rfl, rfl, fun _ _ _ _ _ => rfl, fun h => h, fun _ _ _ _ _ => rfl, fun _ _ _ _ _ => rfl, fun _ _ _ => ⟨rfl, rfl⟩⟩
theorem LM_rf : LM y na nb t t := ⟨fun _ _ _ _ => rfl, fun _ _ _ => rfl, rfl, fun _ _ _ _ _ _ _ _ _ => rfl, fun _ _ _ _ _ _ _ => rfl, fun _ _ _ _ => rfl, fun _ _ _ _ => rfl, fun _ _ => rfl, fun _ _ => rfl⟩
theorem LC_tr (h1 : LC x K na nb cd s s2) (h2 : LC x K na2 nb2 cd2 s2 s3) (l1 : na ≤ na2) (l2 : nb ≤ nb2) (l3 : cd ≤ cd2) : LC x K na nb cd s s3 := by
  obtain ⟨a1, a2, a3, a4, a5, a6, a7, a8⟩ := h1
  obtain ⟨b1, b2, b3, b4, b5, b6, b7, b8⟩ := h2
  exact ⟨fun a c d e => (b1 a c d e).trans (a1 a c d e), fun a c => (b2 a c).trans (a2 a c), b3.trans a3, fun k c d e f => (b4 k c d e f).trans (a4 k c d e f), fun h => a5 (b5 h), fun a r c d e => (b6 a r c d (by omega)).trans (a6 a r c d e), fun a r c d e => (b7 a r c d (by omega)).trans (a7 a r c d e), fun hK p hp => ⟨(b8 hK p (by omega)).1.trans (a8 hK p hp).1, (b8 hK p (by omega)).2.trans (a8 hK p hp).2⟩⟩
theorem LM_tr (h1 : LM y na nb t t2) (h2 : LM y na2 nb2 t2 t3) (l1 : na ≤ na2) (l2 : nb ≤ nb2) : LM y na nb t t3 := by
  obtain ⟨a1, a2, a3, a4, a5, a6, a7, a8, a9⟩ := h1
  obtain ⟨b1, b2, b3, b4, b5, b6, b7, b8, b9⟩ := h2
  exact ⟨fun a c d e => (b1 a c d e).trans (a1 a c d e), fun a c d => (b2 a c d).trans (a2 a c d), b3.trans a3, fun k c d e f g h i j => (b4 k c d e f g h i j).trans (a4 k c d e f g h i j), fun k c d e f g h => (b5 k c d e f g h).trans (a5 k c d e f g h), fun a r c d => (b6 a r c (by omega)).trans (a6 a r c d), fun a r c d => (b7 a r c (by omega)).trans (a7 a r c d), fun b hb => (b8 b (by omega)).trans (a8 b hb), fun b hb => (b9 b (by omega)).trans (a9 b hb)⟩
theorem LC_C (hx : x = 1060 ∨ x = 1096) (o : SC x y K cd us us2 s t s2 t2) : LC x K na nb cd s s2 := by
  obtain ⟨o1, -, o3, -⟩ := o
  exact ⟨fun a c d e => o1.1 a c d (by omega) (by omega) (by omega), o1.2.1, o1.2.2.1, fun k c d e _ => o1.2.2.2.1 k c d e, fun h => by rw [← o1.2.2.2.1 12 (by decide) (by decide) (by decide)]; exact h, fun a r c d _ => by rw [o1.1 a (by omega) (by omega) (by omega) (by omega) (by omega)], fun a r c d _ => by rw [o1.1 a (by omega) (by omega) (by omega) (by omega) (by omega)], o3⟩
theorem LM_C (hy : y = 1134 ∨ y = 1170) (o : SC x y K cd us us2 s t s2 t2) : LM y na nb t t2 := by
  obtain ⟨-, o2, -⟩ := o
  exact ⟨fun a c d e => o2.1 a c d (by omega), o2.2.1, o2.2.2.1, o2.2.2.2.1, fun k _ _ c d e f => o2.2.2.2.2 k c d e f, fun a r c _ => by rw [o2.1 a (by omega) (by omega) (by omega)], fun a r c _ => by rw [o2.1 a (by omega) (by omega) (by omega)], fun b _ => by rw [o2.1 (y + 13) (by omega) (by omega) (by omega)], fun b _ => by rw [o2.1 (y + 14) (by omega) (by omega) (by omega)]⟩
theorem LC_w {a k : Nat} {v : Int32} (hx : x = 1060 ∨ x = 1096) (ha : x + 20 ≤ a ∧ a ≤ x + 26 ∧ na ≤ k ∨ x + 30 ≤ a ∧ a ≤ x + 35 ∧ nb ≤ k ∨ a = x + 19 ∨ a = x + 29) : LC x K na nb cd s (sI s a k v) := by
  refine ⟨fun b _ _ d => hIo (by omega), fun _ _ => rfl, rfl, fun k _ _ _ _ => hIx (by omega), fun h => by rw [← h, hIx (by omega)], fun b r c d e => hIx (by omega), fun b r c d e => hIx (by omega), fun _ p hp => ⟨hIx (by omega), hIx (by omega)⟩⟩
theorem LM_w {a k : Nat} {v : Int32} (hy : y = 1134 ∨ y = 1170) (ha : (y + 15 ≤ a ∧ a ≤ y + 20 ∨ a = y + 23 ∨ a = y + 24) ∧ na ≤ k ∨ (a = y + 21 ∨ a = y + 22) ∧ 4 * na ≤ k ∨ a = y + 13 ∧ nb ≤ k ∨ a = y + 14 ∧ 20 * nb ≤ k ∨ a = y ∧ (k = 13 ∨ k = 16) ∨ a = y + 35 ∨ a = 1132 ∧ k = 14) : LM y na nb t (sI t a k v) :=
  ⟨fun b _ _ d => hIo (by omega), fun _ _ _ => rfl, rfl, fun k _ _ _ _ _ _ _ _ => hIx (by omega), fun k _ _ _ _ _ _ => hIx (by omega), fun b r c d => hIx (by omega), fun b r c d => hIx (by omega), fun b _ => hIx (by omega), fun b _ => hIx (by omega)⟩
/-- the expressions of a statement, so far -/
def XE (G : Nat → Nat → Nat) (x y bl : Nat) (tz : zσ) (E : Nat → Int32) (mE : Nat) (cs : Nat → Nat) (s : zσ) : Prop := ∀ k, k < mE → ∃ e, e < 401 ∧ E k = nI e ∧ tz.1 (y + 25) e = nI (cs k) ∧ tz.1 (y + 26) e = nI (cs (k + 1)) ∧ cs (k + 1) ≤ cs mE ∧ sg G x y bl s (tzMp tz y) (cs k) (cs (k + 1)) 0 40
/-- the operands told of uses -/
def ar (y us us2 : Nat) (t t2 : zσ) : Prop := (∀ u, u < us → t2.1 (y + 35) u = t.1 (y + 35) u) ∧ (∀ u, us ≤ u → u < us2 → t2.1 (y + 35) u = -1)
def uN (f : Nat → Nat) (j v : Nat) : Nat → Nat := fun i => if i = j then v else f i
/-- in statement r; it began at sS, tS -/
def ST (U : Nat → Nat) (len x y : Nat) (s0 t0 : zσ) (K np : Nat) (tz : zσ) (G : Nat → Nat → Nat) (bl r nb0 cd0 : Nat) (sS tS : zσ) (ub q dp nd cd us es nb : Nat) (c m L E : Nat → Int32) (mE : Nat) (cs : Nat → Nat) (s t : zσ) : Prop := SR U len x y s0 t0 K np tz G bl ub q dp nd cd us es (r + 1) nb s t ∧ SF x y r c m L E s t ∧ (LC x K r nb0 cd0 sS s ∧ LM y r nb0 tS t ∧ cd0 ≤ cd ∧ nb0 ≤ nb) ∧ (K = 1 → cs mE = cd ∧ cs 0 = cd0 ∧ XE G x y bl tz E mE cs s)
theorem XE_fr (h : XE G x y bl tz E mE cs s) (e : ∀ p, p < cs mE → s2.1 (x + 27) p = s.1 (x + 27) p ∧ s2.1 (x + 28) p = s.1 (x + 28) p) : XE G x y bl tz E mE cs s2 := fun k hk => by
  obtain ⟨i, a1, a2, a3, a4, a5, a6⟩ := h k hk
  exact ⟨i, a1, a2, a3, a4, a5, sg_fr (fun p hp => e p (by omega)) a6⟩
theorem ST_C {ub2 : Nat} (hS : S0 U len x y s0 t0) (h : ST U len x y s0 t0 K np tz G bl r nb0 cd0 sS tS ub q dp nd cd us es nb c m L E mE cs s t) (o : SC x y K cd us us2 s t s2 t2) (hE : ER U len x y s0 t0 K np tz G bl ub2 q2 dp2 nd2 cd us2 s2 t2) (e28 : t2.1 y 28 = t.1 y 28) (hq : q + dp ≤ q2 + dp2) (hn : nd ≤ nd2) (hu : us ≤ us2) : ST U len x y s0 t0 K np tz G bl r nb0 cd0 sS tS ub2 q2 dp2 nd2 cd us2 es nb c m L E mE cs s2 t2 := by
  obtain ⟨h1, h2, ⟨h3, h4, h5, h6⟩, h7⟩ := h
  refine ⟨SR_C hS h1 o hE e28 hq hn hu, SF_C hS h2 o, ⟨LC_tr h3 (LC_C (na := r) (nb := nb0) hS.1 o) (by omega) (by omega) h5, LM_tr h4 (LM_C (na := r) (nb := nb0) hS.2.1 o) (by omega) (by omega), h5, h6⟩, fun hK => ⟨(h7 hK).1, (h7 hK).2.1, XE_fr (h7 hK).2.2 (fun p hp => o.2.2.1 hK p (by rw [(h7 hK).1] at hp; exact hp))⟩⟩
theorem ST_wC {j : Nat} {v : Int32} (hS : S0 U len x y s0 t0) (hj : j < 7) (h : ST U len x y s0 t0 K np tz G bl r nb0 cd0 sS tS ub q dp nd cd us es nb c m L E mE cs s t) : ST U len x y s0 t0 K np tz G bl r nb0 cd0 sS tS ub q dp nd cd us es nb (uf c j v) m L E mE cs (sI s (x + 20 + j) r v) t := by
  have hx := hS.1
  obtain ⟨h1, h2, ⟨h3, h4, h5, h6⟩, h7⟩ := h
  exact ⟨SR_wC hS (by omega) h1, SF_c hj h2, ⟨LC_tr h3 (LC_w (na := r) (nb := nb0) (cd := cd) hx (by omega)) (by omega) (by omega) h5, h4, h5, h6⟩, fun hK => ⟨(h7 hK).1, (h7 hK).2.1, XE_fr (h7 hK).2.2 (fun p hp => ⟨hIx (by omega), hIx (by omega)⟩)⟩⟩
theorem ST_wM {j : Nat} {v : Int32} (hS : S0 U len x y s0 t0) (hj : j < 10) (j6 : j ≠ 6) (j7 : j ≠ 7) (h : ST U len x y s0 t0 K np tz G bl r nb0 cd0 sS tS ub q dp nd cd us es nb c m L E mE cs s t) : ST U len x y s0 t0 K np tz G bl r nb0 cd0 sS tS ub q dp nd cd us es nb c (uf m j v) L E mE cs s (sI t (y + 15 + j) r v) := by
  have hy := hS.2.1
  obtain ⟨h1, h2, ⟨h3, h4, h5, h6⟩, h7⟩ := h
  exact ⟨SR_wM hS (by omega) h1, SF_m hj j6 j7 h2, ⟨h3, LM_tr h4 (LM_w (na := r) (nb := nb0) hy (by omega)) (by omega) (by omega), h5, h6⟩, h7⟩
theorem ST_wL {j : Nat} {v : Int32} (hS : S0 U len x y s0 t0) (hj : j < 4) (h : ST U len x y s0 t0 K np tz G bl r nb0 cd0 sS tS ub q dp nd cd us es nb c m L E mE cs s t) : ST U len x y s0 t0 K np tz G bl r nb0 cd0 sS tS ub q dp nd cd us es nb c m (uf L j v) E mE cs s (sI t (y + 21) (4 * r + j) v) := by
  have hy := hS.2.1
  obtain ⟨h1, h2, ⟨h3, h4, h5, h6⟩, h7⟩ := h
  exact ⟨SR_wM hS (by omega) h1, SF_L hj h2, ⟨h3, LM_tr h4 (LM_w (na := r) (nb := nb0) hy (by omega)) (by omega) (by omega), h5, h6⟩, h7⟩
theorem ST_ub {ub2 : Nat} (h : ST U len x y s0 t0 K np tz G bl r nb0 cd0 sS tS ub q dp nd cd us es nb c m L E mE cs s t) (h2 : ub ≤ ub2) : ST U len x y s0 t0 K np tz G bl r nb0 cd0 sS tS ub2 q dp nd cd us es nb c m L E mE cs s t := ⟨SR_ub h.1 h2, h.2⟩
/-! the steps -/
theorem er_n {α β : Type} {pm : β → zσ} {F2 : Nat → Nat → α → Prop} {M2 : Nat → Nat → β → Prop} {B : α → β → Prop} {kc : zσ → Option α} {km : zσ → Option β} (hn : 5000 ≤ n) (hS : S0 U len x y s0 t0) (h : ER U len x y s0 t0 K np tz G bl ub q dp nd cd us s t) (H : Hb pm K np y tz (yb0 (f164 n t) km)) (hkm : ∀ u, bk pm (LR np y tz) (km u) u) (hA : ∀ a b, EN U len x y s0 t0 K np tz G bl ub cd us (tkNx U len q) dp nd cd us s t a b → q ≤ tkNx U len q → Hb pm K np y tz (km b) → Rs F2 M2 (ZB K y tz) B (kc a) (km b)) : Rs F2 M2 (ZB K y tz) B (yb0 (f26 n s) kc) (yb0 (f164 n t) km) := by
  obtain ⟨s2, e1, c1, o1⟩ := c_adv hn h.1.2
  obtain ⟨t2, e2, c2, o2⟩ := m_next hn h.2.1.2
  have H2 := H_0 (pm := pm) H (ER_y hS h) (b164 hS.2.1) hkm
  rw [e2, yb0_s] at H
  rw [e1, e2, yb0_s, yb0_s]
  refine hA s2 t2 (er_tok hS h c1 o1 c2 (frT_N o2) (Hb_L H2 e2)) ?_ H
  rcases Nat.lt_or_ge q len with e | e
  · have := tkNx_gt (U := U) e; omega
  · have := (ER_q h).1
    have : q = len := by omega
    subst this
    rw [tkNx_l]; omega
theorem st_n {α β : Type} {pm : β → zσ} {F2 : Nat → Nat → α → Prop} {M2 : Nat → Nat → β → Prop} {B : α → β → Prop} {kc : zσ → Option α} {km : zσ → Option β} (hn : 5000 ≤ n) (hS : S0 U len x y s0 t0) (h : ST U len x y s0 t0 K np tz G bl r nb0 cd0 sS tS ub q dp nd cd us es nb c m L E mE cs s t) (H : Hb pm K np y tz (yb0 (f164 n t) km)) (hkm : ∀ u, bk pm (LR np y tz) (km u) u) (hA : ∀ a b, ST U len x y s0 t0 K np tz G bl r nb0 cd0 sS tS ub (tkNx U len q) dp nd cd us es nb c m L E mE cs a b → SC x y K cd us us s t a b → q ≤ tkNx U len q → Hb pm K np y tz (km b) → Rs F2 M2 (ZB K y tz) B (kc a) (km b)) : Rs F2 M2 (ZB K y tz) B (yb0 (f26 n s) kc) (yb0 (f164 n t) km) :=
  er_n hn hS h.1.1 H hkm (fun a b hab hq H2 => hA a b (ST_C hS h (SC_E hab.1) hab.2 (EC_28 hab.1) (by omega) (by omega) (by omega)) (SC_E hab.1) hq H2)
theorem st_want {k : Nat} (hn : 5000 ≤ n) (hS : S0 U len x y s0 t0) (hc : zsg k = true) (hc2 : k < 126) (h : ST U len x y s0 t0 K np tz G bl r nb0 cd0 sS tS ub q dp nd cd us es nb c m L E mE cs s t) (H : Hb (fun u => u) K np y tz (f179 n (nI k) t)) : Rs (FC len x s0) (FM len y t0) (ZB K y tz) (fun a b => (q < len ∧ tkKind U len q = nI k) ∧ ST U len x y s0 t0 K np tz G bl r nb0 cd0 sS tS ub (tkNx U len q) dp nd cd us es nb c m L E mE cs a b ∧ SC x y K cd us us s t a b) (f37 n (nI k) s) (f179 n (nI k) t) := by
  refine Rs_w (er_want hn hS hc hc2 h.1.1 H) (fun a b _ _ hab => ⟨hab.1, ST_C hS h (SC_E hab.2.1) hab.2.2 (EC_28 hab.2.1) ?_ (by omega) (by omega), SC_E hab.2.1⟩)
  have := tkNx_gt (U := U) hab.1.1
  omega
/-- a name -/
theorem st_use {a w : Int32} {c0 : Nat} (hQ : HQ n U len x y s0 t0 K tz G ub) (h1 : ub + 1 ≤ 900) (h : ST U len x y s0 t0 K np tz G bl r nb0 cd0 sS tS ub q dp nd cd us es nb c m L E mE cs s t) (hc : c0 < 9) (ha : a = nI c0 ∧ w = nI c0 ∨ a = 9 ∧ c0 = 0 ∧ w = 10) (H : Hb (fun u => u.2) K np y tz (f189 n w t)) : Rs (fun f z p => p.1 = -1 ∧ FC len x s0 f z p.2) (fun f z p => FM len y t0 f z p.2) (ZB K y tz) (fun p o => o.1 = nI us ∧ tkKind U len q = 1 ∧ ST U len x y s0 t0 K np tz G bl r nb0 cd0 sS tS (ub + 1) (tkNx U len q) dp nd cd (us + 1) es nb c m L E mE cs p.2 o.2 ∧ SC x y K cd us (us + 1) s t p.2 o.2 ∧ (K = 0 → p.1 = 0) ∧ (K = 1 → uQ G y bl tz a p.1 us q)) (f57 n a s) (f189 n w t) := by
  have hS := hQ.2.1
  have hE := ER_ub (ub2 := ub + 1) h.1.1 (by omega)
  have hu := h.1.1.2.2.2.2.2.2.1.2
  refine Rs_w (er_use (HQ_ub hQ h1) hE hc ha (by omega) H) (fun p o _ _ hab => ?_)
  obtain ⟨b1, b2, b3, b4, b5⟩ := hab
  refine ⟨b1, b2, ST_C hS h (SC_E b3.1) b3.2 (EC_28 b3.1) ?_ (by omega) (by omega), SC_E b3.1, b4, b5⟩
  have := tkNx_gt (U := U) (tk_lt hE (by rw [b2]; decide))
  omega
/-- an expression and its row -/
def r190 (n cd : Nat) (u5 : zσ) : Option (Int32 × zσ) := yb1 (f167 n u5) fun v7 u6 => if v7 = (0 : Int32) then f190_79 n u6 else zrd 12 (u6.2.2 1132 12) fun a8 => zrd 12 (u6.2.2 1132 12) fun a9 => if zin? (u6.1 a9 28) 401 = true then zlet (sI u6 (a8 + 25) (nx (u6.1 a9 28)) (nI cd)) fun u10 => zrd 12 (u10.2.2 1132 12) fun a11 => zrd 12 (u10.2.2 1132 12) fun a12 => zrd 12 (u10.2.2 1132 12) fun a13 => if zin? (u10.1 a12 28) 401 = true then zlet (sI u10 (a11 + 26) (nx (u10.1 a12 28)) (u10.1 a13 31)) fun u14 => zrd 12 (u14.2.2 1132 12) fun a15 => zlet (sI u14 a15 28 ((u14.1 a15 28) + (1 : Int32))) fun u16 => f190_79 n u16 else none else none
theorem lb190 (hy : y = 1134 ∨ y = 1170) (t : zσ) : bk (fun u => u.2) (LR np y tz) (r190 n cd t) t := by
  unfold r190 f190_79
  refine bk_y1 LR_tr (bk_pu pu_167 _) (fun v6 u6 => bk_ite (fun _ => bk_rdL (bk_some LR_rf)) (fun _ => bk_rdL (bk_rdL (bk_ite (fun h => ?_) (fun _ => bk_none)))))
  obtain ⟨es, c1, c2, c3⟩ := zin_ex h
  intro b e hp
  have hp2 : ∀ q, (sI u6 (y + 25) es q).2.2 1132 12 = some y := fun q => hp
  have hp3 : ∀ q r, (sI (sI u6 (y + 25) es q) (y + 26) es r).2.2 1132 12 = some y := fun q r => hp
  have hp4 : ∀ q r w, (sI (sI (sI u6 (y + 25) es q) (y + 26) es r) y 28 w).2.2 1132 12 = some y := fun q r w => hp
  simp (disch := omega) only [zlet, c3, nxN, hIo, hp2, hp3, hp4, grd (gck12 hy), zinN, if_pos c1, naddL] at e
  cases e
  exact LR_ex hy c1 c3 hp
theorem m_190 (hQ : HQ n U len x y s0 t0 K tz G ub) (h : SR U len x y s0 t0 K np tz G bl ub q dp nd cd us es na nb s t) (H : Hb (fun u => u.2) K np y tz (f190 n t)) : Rs (FC len x s0) (fun f z p => FM len y t0 f z p.2) (ZB K y tz) (fun a p => p.1 = nI es ∧ ∃ q2 nd2 cd2 us2, (q + 1 ≤ q2 ∧ (q + 2 ≤ q2 ∨ tkKind U len q = 1 ∨ tkKind U len q = 2 ∨ tkKind U len q = 142 ∨ tkKind U len q = 143 ∨ tkKind U len q = 144)) ∧ (nd + 1 ≤ nd2 ∧ cd ≤ cd2 ∧ us ≤ us2) ∧ SC x y K cd us us2 s t a p.2 ∧ SR U len x y s0 t0 K np tz G bl ub q2 dp nd2 cd2 us2 (es + 1) na nb a p.2 ∧ (K = 1 → tz.1 (y + 25) es = nI cd ∧ tz.1 (y + 26) es = nI cd2 ∧ sg G x y bl a (tzMp tz y) cd cd2 0 40)) (f49 n (f52 n 20) s) (f190 n t) := by
  obtain ⟨hn, hS, -⟩ := id hQ
  have hx := hS.1
  have hy := hS.2.1
  have hE := h.1
  obtain ⟨hB1, hB2, hB3, hB4⟩ := whole_e (np := np) (bl := bl) (t0 := t0) hQ
  have hcs : s.1 (x + 19) 11 = nI cd ∧ t.1 y 31 = nI cd ∧ cd ≤ nd := hE.2.2.2.2.2.1
  have hes := h.2.2.2.1
  have hg := m_goes (n := n) hE.2.1.2.2
  have em : f190 n t = yb0 (f191 n (f194 n 20) t) (r190 n cd) := by
    unfold f190
    rw [hg, yb1_s, if_neg (by decide), ER_y hS hE, grd (gck12 hy)]
    show yb0 (f191 n (f194 n 20) t) _ = _
    rw [hcs.2.1]
    rfl
  have hL79 : ∀ u : zσ, f190_79 n u = zrd 12 (u.2.2 1132 12) fun a1 => some (((u.1 a1 28) - (1 : Int32)), u) := fun u => rfl
  have hkey : ∀ u : zσ, ∀ es : Nat, u.2.2 1132 12 = some y → u.1 1132 9 = 0 → u.1 y 28 = nI es → es < 401 → r190 n cd u = some (nI es, sI (sI (sI u (y + 25) es (nI cd)) (y + 26) es (u.1 y 31)) y 28 (nI (es + 1))) := by
    intro u es r0 h9 k2 hlt
    have hin : zin? (nI es) 401 = true := zin_nI hlt (by decide)
    have g1 : ∀ j v, (sI u (y + 25) j v).1 y = u.1 y := fun j v => hIo (by omega)
    have g2 : ∀ j v j2 v2, (sI (sI u (y + 25) j v) (y + 26) j2 v2).1 y = u.1 y := fun j v j2 v2 => by rw [hIo (by omega), g1]
    have r1 : ∀ a j v, (sI u a j v).2.2 1132 12 = some y := fun _ _ _ => r0
    have r2 : ∀ a j v a2 j2 v2, (sI (sI u a j v) a2 j2 v2).2.2 1132 12 = some y := fun _ _ _ _ _ _ => r0
    have r3 : ∀ a j v a2 j2 v2 a3 j3 v3, (sI (sI (sI u a j v) a2 j2 v2) a3 j3 v3).2.2 1132 12 = some y := fun _ _ _ _ _ _ _ _ _ => r0
    unfold r190
    rw [m_goes h9, yb1_s, if_neg (by decide)]
    simp only [hL79, r0, grd (gck12 hS.2.1), k2, if_pos hin, zlet, r1, g1, r2, g2, r3, nI_1, nx_nI (show es < 2 ^ 31 by omega), hIe, nI_pred]
  rw [em] at H ⊢
  have H0 := H_0 (pm := fun u : Int32 × zσ => u.2) H (ER_y hS hE) (hB4 t) (fun u => lb190 hy u)
  rcases hB1 q dp nd cd us s t (Nat.zero_le _) hE H0 with ⟨a, b, e1, e2, q2, nd2, cd2, us2, hP⟩ | ⟨a, b, f, z, e1, e2, h1, h2⟩ | ⟨a, z, e1, h1, h2⟩
  · have hE2 := hP.2.2.1.2
    have hC := hP.2.2.1.1
    have hb := hP.2.1
    have n3 := hE.2.2.2.2.1.2.2
    have n4 := hE2.2.2.2.2.1.2.2
    have e28 : b.1 y 28 = nI es := (EC_28 hC).trans hes.1
    have k2 := hE2.2.2.2.2.2.1
    have hk := hkey b es (ER_y hS hE2) hE2.2.1.2.2 e28 (by omega)
    rw [k2.2.1] at hk
    have em2 : yb0 (f191 n (f194 n 20) t) (r190 n cd) = some (nI es, sI (sI (sI b (y + 25) es (nI cd)) (y + 26) es (nI cd2)) y 28 (nI (es + 1))) := by rw [e2, yb0_s, hk]
    have hL := Hb_L1 (np := np) (tz := tz) H em2
    have o3 : frM2 y b (sI (sI (sI b (y + 25) es (nI cd)) (y + 26) es (nI cd2)) y 28 (nI (es + 1))) := ⟨fun a _ a2 a3 => by rw [hIo a2, hIo (by omega), hIo (by omega)], fun _ _ _ => rfl, rfl, fun k _ _ _ _ _ _ _ _ => by rw [hIo (by omega), hIo (by omega), hIo (by omega)], fun k _ k1 _ _ => by rw [hIk k1, hIo (by omega), hIo (by omega)]⟩
    have o35 : ∀ u, (sI (sI (sI b (y + 25) es (nI cd)) (y + 26) es (nI cd2)) y 28 (nI (es + 1))).1 (y + 35) u = b.1 (y + 35) u := fun u => by rw [hIo (by omega), hIo (by omega), hIo (by omega)]
    have hSC : SC x y K cd us us2 s t a (sI (sI (sI b (y + 25) es (nI cd)) (y + 26) es (nI cd2)) y 28 (nI (es + 1))) := ⟨hC.1, frM2_tr (frM2_M hC.2.1) o3, hC.2.2.1, fun u hu => by rw [o35]; exact hC.2.2.2.1 u hu, fun u h1 h2 => by rw [o35]; exact hC.2.2.2.2 u h1 h2⟩
    have hE3 : ER U len x y s0 t0 K np tz G bl ub q2 dp nd2 cd2 us2 a (sI (sI (sI b (y + 25) es (nI cd)) (y + 26) es (nI cd2)) y 28 (nI (es + 1))) := by
      obtain ⟨a1, ⟨a2, a2'⟩, a3, ⟨d1, d2, d3⟩, ⟨n1, n2, n3⟩, ⟨k1, k2, k3⟩, ⟨u1, u2⟩, a8⟩ := hE2
      refine ⟨a1, ⟨⟨GFm_I (by omega) hy (GFm_I (by omega) hy (GFm_I (by omega) hy a2.1)), ?_⟩, MG_I (by omega) (by omega) (MG_I (by omega) (by omega) (MG_I (by omega) (by omega) a2'))⟩, a3, ⟨d1, ?_, d3⟩, ⟨n1, ?_, n3⟩, ⟨k1, ?_, k3⟩, ⟨?_, u2⟩, fun hK => ⟨hL hK, (a8 hK).2.1, (a8 hK).2.2.1, (a8 hK).2.2.2.1, ?_⟩⟩
      · rw [hIo (by omega), hIo (by omega), hIo (by omega)]; exact a2.2
      · rw [hIo (by omega), hIo (by omega), hIo (by omega)]; exact d2
      · rw [hIk (by decide), hIo (by omega), hIo (by omega)]; exact n2
      · rw [hIk (by decide), hIo (by omega), hIo (by omega)]; exact k2
      · rw [hIk (by decide), hIo (by omega), hIo (by omega)]; exact u1
      · rw [hIo (by omega), hIo (by omega), hIo (by omega)]; exact (a8 hK).2.2.2.2
    refine Rs_A e1 em2 ⟨rfl, q2, nd2, cd2, us2, hP.1, ⟨hb.1, hb.2.1, by omega⟩, hSC, ?_, fun hK => ?_⟩
    · have hq1 := hP.1.1
      obtain ⟨-, ⟨a1, a2, a3⟩, ⟨b1, b2, b3⟩, ⟨c1, c2⟩, d1, e1', f1⟩ := h
      obtain ⟨o1, o2, -, o4, o5⟩ := hSC
      refine ⟨hE3, ⟨?_, ?_, a3⟩, ⟨?_, ?_, by omega⟩, ⟨hIe, by omega⟩, ?_, MI_fr e1' (o1.2.2.2.1 12 (by decide) (by decide) (by decide)) o4 o5 (by omega), fun hK p hp => ?_⟩
      · rw [o1.2.2.2.2 9 (by decide) (by decide)]; exact a1
      · rw [o2.2.2.2.2 16 (by decide) (by decide) (by decide) (by decide)]; exact a2
      · rw [o1.1 (x + 29) (by omega) (by omega) (by omega) (by omega) (by omega)]; exact b1
      · rw [o2.2.2.2.2 13 (by decide) (by decide) (by decide) (by decide)]; exact b2
      · rw [o1.2.2.2.1 8 (by decide) (by decide) (by decide), o2.2.2.2.1 15 (by decide) (by decide) (by decide) (by decide) (by decide) (by decide) (by decide) (by decide)]; exact d1
      · rw [o1.1 (x + 18) (by omega) (by omega) (by omega) (by omega) (by omega)]; exact f1 hK p hp
    · obtain ⟨es1, ez, w1, w2, w3, w4, w5⟩ := (hL hK).2.2.2.1
      have : es1 = es + 1 := (nI_eq (by omega) (by omega)).mp (w1.symm.trans hIe)
      obtain ⟨x1, x2⟩ := w5 es (by omega)
      refine ⟨x1.symm.trans ?_, x2.symm.trans ?_, sg_up (by omega) (hP.2.2.2 hK)⟩
      · rw [hIo (by omega), hIo (by omega), hIe]
      · rw [hIo (by omega), hIe]
  · refine Rs_B (f := f) (z := z) ⟨a, e1, h1⟩ ?_
    rw [e2, yb0_s]
    unfold r190
    rw [m_goes0 (fm_ne h2), yb1_s, if_pos rfl, hL79, BM_rf hS h2.1, grd (gck12 hy)]
    exact fw_some h2
  · exact Rs_C h1 ⟨a, e1, h2⟩
/-- an expression, and the statement's field for it -/
theorem st_e {α β : Type} {pm : β → zσ} {F2 : Nat → Nat → α → Prop} {M2 : Nat → Nat → β → Prop} {B : α → β → Prop} {kc : zσ → Option α} {km : zσ → Option β} (hQ : HQ n U len x y s0 t0 K tz G ub) (hm : mE < 4) (h : ST U len x y s0 t0 K np tz G bl r nb0 cd0 sS tS ub q dp nd cd us es nb c m L E mE cs s t) (H : Hb pm K np y tz (yb1 (f190 n t) fun v u => zlet (sI u (y + 22) (4 * r + mE) v) km)) (hkm : ∀ u, bk pm (LR np y tz) (km u) u) (hF : ∀ f z u, FC len x s0 f z u → fw (F2 f z) (kc u)) (hM : ∀ f z u, FM len y t0 f z u → fw (M2 f z) (km u)) (hA : ∀ q2 nd2 cd2 us2 a b, q + 1 ≤ q2 → (q + 2 ≤ q2 ∨ tkKind U len q = 1 ∨ tkKind U len q = 2 ∨ tkKind U len q = 142 ∨ tkKind U len q = 143 ∨ tkKind U len q = 144) → ST U len x y s0 t0 K np tz G bl r nb0 cd0 sS tS ub q2 dp nd2 cd2 us2 (es + 1) nb c m L (uf E mE (nI es)) (mE + 1) (uN cs (mE + 1) cd2) a b → us ≤ us2 → ar y us us2 t b → Hb pm K np y tz (km b) → Rs F2 M2 (ZB K y tz) B (kc a) (km b)) : Rs F2 M2 (ZB K y tz) B (yb0 (f49 n (f52 n 20) s) kc) (yb1 (f190 n t) fun v u => zlet (sI u (y + 22) (4 * r + mE) v) km) := by
  obtain ⟨hn, hS, -⟩ := id hQ
  have hx := hS.1
  have hy := hS.2.1
  refine st01 H (ER_y hS h.1.1) (b190 hn hy t) (fun v u => ?_) (m_190 hQ h.1) hF (fun f z w b hM' => ?_) (fun a w b hab H2 => ?_)
  · refine bk_zS LR_tr (LR_I (by omega) (by omega) (by omega) (by omega)) (hkm _)
  · exact hM f z _ (FM_I hy (by omega) hM')
  · obtain ⟨rfl, q2, nd2, cd2, us2, ⟨hq, hk⟩, ⟨b1, b2, b3⟩, hC, hR, hD⟩ := hab
    have es4 : es < 401 := by
      have h1 := h.1.2.2.2.1.2
      have h2 := h.1.1.2.2.2.2.1.2.2
      omega
    obtain ⟨h1, h2, ⟨h3, h4, h5, h6⟩, h7⟩ := id h
    refine hA q2 nd2 cd2 us2 a (sI b (y + 22) (4 * r + mE) (nI es)) hq hk ⟨SR_wM hS (by omega) hR, SF_E hm (SF_C hS h2 hC), ⟨LC_tr h3 (LC_C (na := r) (nb := nb0) hx hC) (by omega) (by omega) h5, LM_tr (LM_tr h4 (LM_C (na := r) (nb := nb0) hy hC) (by omega) (by omega)) (LM_w (na := r) (nb := nb0) hy (by omega)) (by omega) (by omega), by omega, h6⟩, fun hK => ?_⟩ b3 ⟨fun u hu => by rw [hIo (by omega)]; exact hC.2.2.2.1 u hu, fun u hu hu2 => by rw [hIo (by omega)]; exact hC.2.2.2.2 u hu hu2⟩ H2
    obtain ⟨g1, g2, g3⟩ := h7 hK
    obtain ⟨d1, d2, d3⟩ := hD hK
    refine ⟨if_pos rfl, (if_neg (by omega)).trans g2, fun k hk => ?_⟩
    by_cases e : k = mE
    · subst e
      refine ⟨es, es4, if_pos rfl, ?_, ?_, ?_, ?_⟩
      · rw [d1]; unfold uN; rw [if_neg (by omega), g1]
      · rw [d2]; unfold uN; rw [if_pos rfl]
      · exact Nat.le_refl _
      · unfold uN; rw [if_neg (by omega), if_pos rfl, g1]; exact d3
    · obtain ⟨e1, a1, a2, a3, a4, a5, a6⟩ := g3 k (by omega)
      have hc := hC.2.2.1 hK
      refine ⟨e1, a1, by unfold uf; rw [if_neg e]; exact a2, ?_, ?_, ?_, ?_⟩
      · unfold uN; rw [if_neg (by omega)]; exact a3
      · unfold uN; rw [if_neg (by omega)]; exact a4
      · unfold uN; rw [if_neg (by omega), if_pos rfl]; omega
      · unfold uN; rw [if_neg (by omega), if_neg (by omega)]; exact sg_fr (fun p hp => hc p (by omega)) a6
/-- a name, and the statement's fields for it -/
theorem st_u {α β : Type} {pm : β → zσ} {F2 : Nat → Nat → α → Prop} {M2 : Nat → Nat → β → Prop} {B : α → β → Prop} {kc : zσ → Option α} {km : zσ → Option β} {a w : Int32} {c0 j i : Nat} (hQ : HQ n U len x y s0 t0 K tz G ub) (h1 : ub + 1 ≤ 900) (hji : j = 1 ∧ i = 2 ∨ j = 2 ∧ i = 3) (h : ST U len x y s0 t0 K np tz G bl r nb0 cd0 sS tS ub q dp nd cd us es nb c m L E mE cs s t) (hc : c0 < 9) (ha : a = nI c0 ∧ w = nI c0 ∨ a = 9 ∧ c0 = 0 ∧ w = 10) (H : Hb pm K np y tz (yb1 (f189 n w t) fun v u => zlet (sI u (y + 15 + i) r v) km)) (hkm : ∀ u, bk pm (LR np y tz) (km u) u) (hF : ∀ f z u, FC len x s0 f z u → fw (F2 f z) (kc u)) (hM : ∀ f z u, FM len y t0 f z u → fw (M2 f z) (km u)) (hA : ∀ v a2 b, tkKind U len q = 1 → ST U len x y s0 t0 K np tz G bl r nb0 cd0 sS tS (ub + 1) (tkNx U len q) dp nd cd (us + 1) es nb (uf c j v) (uf m i (nI us)) L E mE cs a2 b → (K = 1 → uQ G y bl tz a v us q) → (K = 0 → v = 0) → ar y us (us + 1) t b → Hb pm K np y tz (km b) → Rs F2 M2 (ZB K y tz) B (kc a2) (km b)) : Rs F2 M2 (ZB K y tz) B (yb1 (f57 n a s) fun v u => zlet (sI u (x + 20 + j) r v) kc) (yb1 (f189 n w t) fun v u => zlet (sI u (y + 15 + i) r v) km) := by
  obtain ⟨hn, hS, -⟩ := id hQ
  have hx := hS.1
  have hy := hS.2.1
  refine st11 H (ER_y hS h.1.1) (b189 hn hy) (fun v u => ?_) (st_use hQ h1 h hc ha) (fun f z v u hF' => ?_) (fun f z w b hM' => ?_) (fun v a2 w2 b hab H2 => ?_)
  · refine bk_zS LR_tr (LR_I (by omega) (by omega) (by omega) (by omega)) (hkm _)
  · exact hF f z _ (FC_I hx (by omega) (by omega) (by omega) hF'.2)
  · exact hM f z _ (FM_I hy (by omega) hM')
  · obtain ⟨rfl, b2, b3, b4, b5, b6⟩ := hab
    exact hA v _ _ b2 (ST_wM hS (by omega) (by omega) (by omega) (ST_wC hS (by omega) b3)) b6 b5 ⟨fun u hu => by rw [hIo (by omega)]; exact b4.2.2.2.1 u hu, fun u hu hu2 => by rw [hIo (by omega)]; exact b4.2.2.2.2 u hu hu2⟩ H2
end ZPV
