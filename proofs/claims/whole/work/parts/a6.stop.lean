/-! the readers behind a fault -/
section ZPI
def fw {β : Type} (P : β → Prop) (p : Option β) : Prop := ∃ b, p = some b ∧ P b
/-- all but the class's reader, its token and text x is as in s0 -/
def GFc (x : Nat) (s0 s : zσ) : Prop := (∀ a, a ≠ 1001 → a ≠ 1004 → a ≠ 1005 → (a < x ∨ x + 35 < a) → s.1 a = s0.1 a) ∧ (∀ a, a ≠ 1001 → a ≠ 1006 → (a < x + 2 ∨ x + 10 < a) → s.2.1 a = s0.2.1 a) ∧ s.2.2 = s0.2.2
def GFm (y : Nat) (t0 t : zσ) : Prop := (∀ a, a ≠ 1132 → (a < y ∨ y + 35 < a) → t.1 a = t0.1 a) ∧ (∀ a, a ≠ 1132 → a ≠ y + 1 → a ≠ y + 12 → a ≠ y + 29 → t.2.1 a = t0.2.1 a) ∧ t.2.2 = t0.2.2 ∧ (∀ k, k < 3 ∨ k = 13 ∨ 16 ≤ k → t.1 1132 k = t0.1 1132 k) ∧ (∀ k, k < 4 → ∃ v, v < 2 ^ 31 ∧ t.1 (y + 6) k = nI v)
/-- how a pass begins -/
def S0 (U : Nat → Nat) (len x y : Nat) (s0 t0 : zσ) : Prop := (x = 1060 ∨ x = 1096) ∧ (y = 1134 ∨ y = 1170) ∧ txC U len s0 ∧ wdC s0 ∧ txM U len t0 ∧ (s0.2.2 1004 4 = some x ∧ s0.2.2 1004 5 = some (x + 19) ∧ s0.2.2 1004 6 = some (x + 29)) ∧ (∀ c, c < 9 → s0.2.2 (x + 1) c = some (x + 2 + c)) ∧ t0.2.2 1132 12 = some y ∧ (∀ k, k < 9 → t0.1 1206 k = zmost.getD k 0)
def BC (len x : Nat) (s0 s : zσ) : Prop := GFc x s0 s ∧ s.1 1001 2 = nI len ∧ (∃ p, p ≤ len ∧ s.1 1001 3 = nI p) ∧ (∃ c, c ≤ 400 ∧ s.1 (x + 19) 11 = nI c)
def FC (len x : Nat) (s0 : zσ) (f z : Nat) (s : zσ) : Prop := BC len x s0 s ∧ CF f z s
def BM (len y : Nat) (t0 t : zσ) : Prop := GFm y t0 t ∧ ∃ p, p ≤ len ∧ t.1 1132 5 = nI p
def FM (len y : Nat) (t0 : zσ) (f z : Nat) (t : zσ) : Prop := BM len y t0 t ∧ MF f z t
variable {U : Nat → Nat} {len x y n f z : Nat} {s0 t0 s t : zσ} {β : Type} {P : β → Prop}
theorem fw_some {b : β} (h : P b) : fw P (some b) := ⟨b, rfl, h⟩
theorem fw_y0 {Q : zσ → Prop} {p : Option zσ} {k : zσ → Option β} (h1 : fw Q p) (h2 : ∀ u, Q u → fw P (k u)) : fw P (yb0 p k) := by
  obtain ⟨u, e, q⟩ := h1
  rw [e]
  exact h2 u q
theorem fw_y1 {α : Type} {Q : α × zσ → Prop} {p : Option (α × zσ)} {k : α → zσ → Option β} (h1 : fw Q p) (h2 : ∀ v u, Q (v, u) → fw P (k v u)) : fw P (yb1 p k) := by
  obtain ⟨u, e, q⟩ := h1
  rw [e]
  exact h2 u.1 u.2 q
theorem fw_z {α : Type} {v : α} {k : α → Option β} (h : fw P (k v)) : fw P (zlet v k) := h
theorem fw_i1 {c : Prop} {i : Decidable c} {p q : Option β} (hc : c) (h : fw P p) : fw P (if c then p else q) := by rw [if_pos hc]; exact h
theorem fw_i0 {c : Prop} {i : Decidable c} {p q : Option β} (hc : ¬ c) (h : fw P q) : fw P (if c then p else q) := by rw [if_neg hc]; exact h
theorem fw_i {c : Prop} {i : Decidable c} {p q : Option β} (h1 : c → fw P p) (h2 : ¬ c → fw P q) : fw P (if c then p else q) := by
  by_cases h : c
  · rw [if_pos h]; exact h1 h
  · rw [if_neg h]; exact h2 h
/-! the class -/
theorem GFc_rf : GFc x s s := ⟨fun _ _ _ _ _ => rfl, fun _ _ _ _ => rfl, rfl⟩
theorem GFc_I {a k : Nat} {v : Int32} (ha : a = 1001 ∨ a = 1004 ∨ a = 1005 ∨ x ≤ a ∧ a ≤ x + 35) (h : GFc x s0 s) : GFc x s0 (sI s a k v) := ⟨fun b b1 b2 b3 b4 => by rw [hIo (by omega)]; exact h.1 b b1 b2 b3 b4, h.2.1, h.2.2⟩
theorem BC_tx (hS : S0 U len x y s0 t0) (h : BC len x s0 s) : txC U len s ∧ wdC s := by
  obtain ⟨hx, -, h1, h2, -⟩ := hS
  refine ⟨⟨h1.1, h.2.1, fun i hi => ?_⟩, fun i hi => ?_⟩
  · rw [h.1.1 1002 (by decide) (by decide) (by decide) (by omega)]; exact h1.2.2 i hi
  · rw [h.1.2.1 1003 (by decide) (by decide) (by omega)]; exact h2 i hi
theorem BC_rf (hS : S0 U len x y s0 t0) (h : BC len x s0 s) : s.2.2 1004 4 = some x ∧ s.2.2 1004 5 = some (x + 19) ∧ s.2.2 1004 6 = some (x + 29) ∧ (∀ c, c < 9 → s.2.2 (x + 1) c = some (x + 2 + c)) := by
  rw [h.1.2.2]
  exact ⟨hS.2.2.2.2.2.1.1, hS.2.2.2.2.2.1.2.1, hS.2.2.2.2.2.1.2.2, hS.2.2.2.2.2.2.1⟩
theorem BC_I {a k : Nat} {v : Int32} (hx : x = 1060 ∨ x = 1096) (ha : a = 1004 ∨ a = 1005 ∨ x ≤ a ∧ a ≤ x + 35) (hk : ¬ (a = x + 19 ∧ k = 11)) (h : BC len x s0 s) : BC len x s0 (sI s a k v) := by
  obtain ⟨h1, h2, ⟨p, hp, h3⟩, c, hc, h4⟩ := h
  refine ⟨GFc_I (by omega) h1, ?_, ⟨p, hp, ?_⟩, c, hc, ?_⟩
  · rw [hIo (by omega)]; exact h2
  · rw [hIo (by omega)]; exact h3
  · rw [hIx (by omega)]; exact h4
theorem FC_I {a k : Nat} {v : Int32} (hx : x = 1060 ∨ x = 1096) (ha : a = 1004 ∨ a = 1005 ∨ x ≤ a ∧ a ≤ x + 35) (hk : ¬ (a = x + 19 ∧ k = 11)) (hk2 : ¬ (a = 1004 ∧ (k = 10 ∨ k = 11))) (h : FC len x s0 f z s) : FC len x s0 f z (sI s a k v) := by
  obtain ⟨h1, h2, h3, h4⟩ := h
  exact ⟨BC_I hx ha hk h1, by rw [hIo (by omega)]; exact h2, by rw [hIx (by omega)]; exact h3, by rw [hIx (by omega)]; exact h4⟩
theorem fc_4 (h : FC len x s0 f z s) : s.1 1001 4 = 4 := h.2.1
theorem fc_k {c : Int32} (h : FC len x s0 f z s) (hc : ¬ c = 4) : ¬ s.1 1001 4 = c := by rw [fc_4 h]; exact fun e => hc e.symm
theorem fcs_I {a k : Nat} {v : Int32} {b : zσ → Option β} (h : FC len x s0 f z s) (hx : x = 1060 ∨ x = 1096) (ha : a = 1004 ∨ a = 1005 ∨ x ≤ a ∧ a ≤ x + 35) (hk : ¬ (a = x + 19 ∧ k = 11)) (hk2 : ¬ (a = 1004 ∧ (k = 10 ∨ k = 11))) (hb : FC len x s0 f z (sI s a k v) → fw P (b (sI s a k v))) : fw P (zlet (sI s a k v) b) := hb (FC_I hx ha hk hk2 h)
theorem fcs_r5 {k : Nat → Option β} (hS : S0 U len x y s0 t0) (h : FC len x s0 f z s) (hk : fw P (k (x + 19))) : fw P (zrd 6 (s.2.2 1004 5) k) := by
  rw [(BC_rf hS h.1).2.1, grd (gck9 hS.1).2.1]; exact hk
theorem fcs_r6 {k : Nat → Option β} (hS : S0 U len x y s0 t0) (h : FC len x s0 f z s) (hk : fw P (k (x + 29))) : fw P (zrd 0 (s.2.2 1004 6) k) := by
  rw [(BC_rf hS h.1).2.2.1, grd (gck9 hS.1).2.2]; exact hk
theorem fcs_r4 {k : Nat → Option β} (hS : S0 U len x y s0 t0) (h : FC len x s0 f z s) (hk : fw P (k x)) : fw P (zrd 9 (s.2.2 1004 4) k) := by
  rw [(BC_rf hS h.1).1, grd (gck9 hS.1).1]; exact hk
theorem fcs_32 {c : Int32} {k : Int32 → zσ → Option β} (h : FC len x s0 f z s) (hk : fw P (k (-1) s)) : fw P (yb1 (f32 n c s) k) := by
  rw [c_refuse0 (fc_4 h)]; exact hk
theorem fcs_26 {k : zσ → Option β} (h : FC len x s0 f z s) (hk : fw P (k s)) : fw P (yb0 (f26 n s) k) := by
  rw [c_adv0 (fc_4 h)]; exact hk
theorem fcs_37 {c : Int32} {k : zσ → Option β} (h : FC len x s0 f z s) (hc : ¬ c = 4) (hk : fw P (k s)) : fw P (yb0 (f37 n c s) k) := by
  rw [c_want0 hc (fc_4 h)]; exact hk
theorem fcs_39 {c : Int32} {k : Int32 → zσ → Option β} (h : FC len x s0 f z s) (hc : ¬ c = 4) (hk : fw P (k 0 s)) : fw P (yb1 (f39 n c s) k) := by
  rw [c_accept0 hc (fc_4 h)]; exact hk
theorem fc_41 {c : Int32} (h : FC len x s0 f z s) (hc : ¬ c = 4) : f41 n c s = some (0, s) := by
  unfold f41
  rw [if_neg (fc_k h hc), c_refuse0 (fc_4 h)]
  rfl
theorem fcs_41 {c : Int32} {k : Int32 → zσ → Option β} (h : FC len x s0 f z s) (hc : ¬ c = 4) (hk : fw P (k 0 s)) : fw P (yb1 (f41 n c s) k) := by
  rw [fc_41 h hc]; exact hk
theorem fc_57 {c : Int32} (h : FC len x s0 f z s) : f57 n c s = some (-1, s) := by
  unfold f57
  rw [if_neg (fc_k h (by decide)), c_refuse0 (fc_4 h)]
  rfl
theorem fcs_57 {c : Int32} {k : Int32 → zσ → Option β} (h : FC len x s0 f z s) (hk : fw P (k (-1) s)) : fw P (yb1 (f57 n c s) k) := by
  rw [fc_57 h]; exact hk
theorem fcs_58 {k : zσ → Option β} (hS : S0 U len x y s0 t0) (h : FC len x s0 f z s) (hk : fw P (k s)) : fw P (yb0 (f58 n s) k) := by
  have e : f58 n s = some s := by
    unfold f58
    rw [(BC_rf hS h.1).2.1, grd (gck9 hS.1).2.1, if_pos (fc_4 h), c_refuse0 (fc_4 h)]
    split <;> rfl
  rw [e]; exact hk
theorem fcs_53 {k : zσ → Option β} (hS : S0 U len x y s0 t0) (h : FC len x s0 f z s) (hk : ∀ u, FC len x s0 f z u → fw P (k u)) : fw P (yb0 (f53 n s) k) := by
  refine fw_y0 (Q := FC len x s0 f z) ?_ hk
  unfold f53
  rw [(BC_rf hS h.1).2.1, grd (gck9 hS.1).2.1, grd (gck9 hS.1).2.1, c_refuse0 (fc_4 h)]
  refine fw_i (fun _ => ?_) (fun _ => ⟨s, rfl, h⟩)
  have hx := hS.1
  exact ⟨_, rfl, FC_I hx (by omega) (by omega) (by omega) h⟩
theorem fc_54 {c d : Int32} (hx : x = 1060 ∨ x = 1096) (h : FC len x s0 f z s) : fw (FC len x s0 f z) (f54 n (x + 19) c d s) := by
  obtain ⟨⟨g1, g2, g3, cd, hc, e⟩, h2, h3, h4⟩ := id h
  unfold f54
  rw [e]
  by_cases hlt : cd < 400
  · have e1 : ∀ j v, (sI s (x + 19 + 8) j v).1 (x + 19) 11 = nI cd := fun j v => by rw [hIo (by omega), e]
    have e2 : ∀ j v j2 v2, (sI (sI s (x + 19 + 8) j v) (x + 19 + 9) j2 v2).1 (x + 19) 11 = nI cd := fun j v j2 v2 => by rw [hIo (by omega), e1]
    have hin : zin? (nI cd) 400 = true := zin_nI hlt (by decide)
    rw [if_pos (show nI cd < 400 from nI_lt (b := 400) hlt (by decide)), if_pos hin]
    simp only [zlet, e1, if_pos hin, e2, nI_1]
    refine ⟨_, rfl, ⟨GFc_I (by omega) (GFc_I (by omega) (GFc_I (by omega) g1)), ?_, ?_, cd + 1, by omega, hIe⟩, ?_, ?_, ?_⟩
    all_goals simp (disch := omega) only [hIo]
    · exact g2
    · exact g3
    · exact h2
    · exact h3
    · exact h4
  · rw [if_neg (show ¬ nI cd < 400 from nI_nlt (b := 400) (by omega) (by omega))]
    exact ⟨s, rfl, h⟩
theorem fcs_54 {c d : Int32} {k : zσ → Option β} (hx : x = 1060 ∨ x = 1096) (h : FC len x s0 f z s) (hk : ∀ u, FC len x s0 f z u → fw P (k u)) : fw P (yb0 (f54 n (x + 19) c d s) k) := fw_y0 (fc_54 hx h) hk
/-! the reference -/
theorem GFm_I {a k : Nat} {v : Int32} (ha : a = 1132 ∧ ¬ (k < 3 ∨ k = 13 ∨ 16 ≤ k) ∨ y ≤ a ∧ a ≤ y + 35 ∧ a ≠ y + 6) (hy : y = 1134 ∨ y = 1170) (h : GFm y t0 t) : GFm y t0 (sI t a k v) := ⟨fun b b1 b2 => by rw [hIo (by omega)]; exact h.1 b b1 b2, h.2.1, h.2.2.1, fun j hj => by rw [hIx (by omega)]; exact h.2.2.2.1 j hj, fun j hj => by rw [hIo (by omega)]; exact h.2.2.2.2 j hj⟩
theorem GFm_N {t2 : zσ} (hy : y = 1134 ∨ y = 1170) (h : GFm y t0 t) (o : frN t t2) : GFm y t0 t2 := ⟨fun a a1 a2 => by rw [(o.1 a a1).1]; exact h.1 a a1 a2, fun a a1 a2 a3 a4 => by rw [(o.1 a a1).2.1]; exact h.2.1 a a1 a2 a3 a4, by rw [o.2.2.2]; exact h.2.2.1, fun k hk => by rw [o.2.1 k (by omega) (by omega) (by omega) (by omega) (by omega)]; exact h.2.2.2.1 k hk, fun k hk => by rw [(o.1 (y + 6) (by omega)).1]; exact h.2.2.2.2 k hk⟩
theorem BM_tx (hS : S0 U len x y s0 t0) (h : BM len y t0 t) : txM U len t := by
  obtain ⟨-, hy, -, -, h1, -⟩ := hS
  refine ⟨h1.1, ?_, fun i hi => ?_⟩
  · rw [h.1.2.2.2.1 1 (by omega)]; exact h1.2.1
  · rw [h.1.1 1133 (by decide) (by omega)]; exact h1.2.2 i hi
theorem BM_rf (hS : S0 U len x y s0 t0) (h : BM len y t0 t) : t.2.2 1132 12 = some y := by
  rw [h.1.2.2.1]
  exact hS.2.2.2.2.2.2.2.1
theorem fm_ne (h : FM len y t0 f z t) : ¬ t.1 1132 9 = 0 := MF_ne h.2
theorem FM_I {a k : Nat} {v : Int32} (hy : y = 1134 ∨ y = 1170) (ha : a = 1132 ∧ (k = 14 ∨ k = 15) ∨ y ≤ a ∧ a ≤ y + 35 ∧ a ≠ y + 6) (h : FM len y t0 f z t) : FM len y t0 f z (sI t a k v) := by
  obtain ⟨⟨h1, p, hp, h2⟩, h3, h4, h5⟩ := h
  exact ⟨⟨GFm_I (by omega) hy h1, p, hp, by rw [hIx (by omega)]; exact h2⟩, by rw [hIx (by omega)]; exact h3, by rw [hIx (by omega)]; exact h4, h5⟩
theorem fms_I {a k : Nat} {v : Int32} {b : zσ → Option β} (h : FM len y t0 f z t) (hy : y = 1134 ∨ y = 1170) (ha : a = 1132 ∧ (k = 14 ∨ k = 15) ∨ y ≤ a ∧ a ≤ y + 35 ∧ a ≠ y + 6) (hb : FM len y t0 f z (sI t a k v) → fw P (b (sI t a k v))) : fw P (zlet (sI t a k v) b) := hb (FM_I hy ha h)
theorem fms_rd {k : Nat → Option β} (hS : S0 U len x y s0 t0) (h : FM len y t0 f z t) (hk : fw P (k y)) : fw P (zrd 12 (t.2.2 1132 12) k) := by
  rw [BM_rf hS h.1, grd (gck12 hS.2.1)]; exact hk
theorem fms_167 {k : Int32 → zσ → Option β} (h : FM len y t0 f z t) (hk : fw P (k 0 t)) : fw P (yb1 (f167 n t) k) := by
  rw [m_goes0 (fm_ne h)]; exact hk
theorem fms_173 {a b : Int32} {k : zσ → Option β} (h : FM len y t0 f z t) (hk : fw P (k t)) : fw P (yb0 (f173 n a b t) k) := by
  rw [m_wrong0 (fm_ne h)]; exact hk
theorem fms_172 {k : zσ → Option β} (h : FM len y t0 f z t) (hk : fw P (k t)) : fw P (yb0 (f172 n t) k) := by
  rw [m_cant0 (fm_ne h)]; exact hk
theorem fms_179 {c : Int32} {k : zσ → Option β} (h : FM len y t0 f z t) (hk : fw P (k t)) : fw P (yb0 (f179 n c t) k) := by
  rw [m_want0 (fm_ne h)]; exact hk
theorem fms_164 {k : zσ → Option β} (hn : 5000 ≤ n) (hS : S0 U len x y s0 t0) (h : FM len y t0 f z t) (hk : ∀ u, FM len y t0 f z u → fw P (k u)) : fw P (yb0 (f164 n t) k) := by
  obtain ⟨p, hp, h5⟩ := h.1.2
  obtain ⟨t2, e, h2, o⟩ := TM_of hn (BM_tx hS h.1) h5 hp
  rw [e]
  refine hk t2 ⟨⟨GFm_N hS.2.1 h.1.1 o, ?_⟩, ?_, ?_, h.2.2.2⟩
  · obtain ⟨p, hp, h5, -⟩ := h2.2.2.2.2.1
    exact ⟨p, hp, h5⟩
  · rw [o.2.1 9 (by decide) (by decide) (by decide) (by decide) (by decide)]; exact h.2.1
  · rw [o.2.1 10 (by decide) (by decide) (by decide) (by decide) (by decide)]; exact h.2.2.1
theorem fms_196 {a b : Int32} {k : zσ → Option β} (h : FM len y t0 f z t) (hk : fw P (k t)) : fw P (yb0 (f196 n a b t) k) := by
  have e : f196 n a b t = some t := by
    unfold f196
    rw [m_goes0 (fm_ne h)]
    rfl
  rw [e]; exact hk
theorem fms_195 {k : zσ → Option β} (hS : S0 U len x y s0 t0) (h : FM len y t0 f z t) (hk : fw P (k t)) : fw P (yb0 (f195 n t) k) := by
  have e : f195 n t = some t := by
    unfold f195 f195_29 f195_49
    rw [m_goes0 (fm_ne h), yb1_s, if_pos rfl, BM_rf hS h.1, grd (gck12 hS.2.1), m_goes0 (fm_ne h), yb1_s, if_pos rfl]
    simp only [zlet]
    rw [Int32.add_zero, sI_id rfl]
  rw [e]; exact hk
theorem fms_182 {k : zσ → Option β} (hS : S0 U len x y s0 t0) (h : FM len y t0 f z t) (hk : ∀ u, FM len y t0 f z u → fw P (k u)) : fw P (yb0 (f182 n t) k) := by
  unfold f182 f182_25
  rw [m_goes0 (fm_ne h), yb1_s, if_pos rfl]
  exact hk _ (FM_I hS.2.1 (by omega) h)
theorem fms_189 {c : Int32} {k : Int32 → zσ → Option β} (h : FM len y t0 f z t) (hk : fw P (k 0 t)) : fw P (yb1 (f189 n c t) k) := by
  unfold f189
  rw [m_goes0 (fm_ne h)]; exact hk
theorem fms_190 {k : Int32 → zσ → Option β} (h : FM len y t0 f z t) (hk : fw P (k 0 t)) : fw P (yb1 (f190 n t) k) := by
  unfold f190
  rw [m_goes0 (fm_ne h)]; exact hk
theorem fms_178 {a b : Int32} {k : Int32 → zσ → Option β} (h : FM len y t0 f z t) (hk : fw P (k 0 t)) : fw P (yb1 (f178 n a b t) k) := by
  unfold f178
  rw [m_goes0 (fm_ne h)]; exact hk
theorem fm_181 {j : Nat} (h : FM len y t0 f z t) : f181 n (j + 1) t = some (0, t) := by
  show f181b n _ t = _
  unfold f181b
  rw [m_goes0 (fm_ne h)]; rfl
end ZPI
