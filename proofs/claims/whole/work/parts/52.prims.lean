/-! the small steps of the two readers -/
/-- the class goes on, at the token of place q -/
def CG (U : Nat → Nat) (len q : Nat) (s : zσ) : Prop := TC U len q s ∧ s.1 1004 10 = 0
/-- the class has stopped, with fault f at place x -/
def CF (f x : Nat) (s : zσ) : Prop := s.1 1001 4 = 4 ∧ s.1 1004 10 = nI f ∧ s.1 1004 11 = nI x
/-- the reference goes on; it has fault f at place x -/
def MG (U : Nat → Nat) (len q : Nat) (t : zσ) : Prop := TM U len q t ∧ t.1 1132 9 = 0
def MF (f x : Nat) (t : zσ) : Prop := t.1 1132 9 = nI f ∧ t.1 1132 10 = nI x ∧ 0 < f ∧ f < 8
/-- a token that is wrong in itself is fault 1 -/
def zft (U : Nat → Nat) (len q f : Nat) : Nat := if tkKind U len q = 0 then 1 else f
theorem zft_b {U : Nat → Nat} {len q f : Nat} (h : 0 < f ∧ f < 8) : 0 < zft U len q f ∧ zft U len q f < 8 := by
  unfold zft
  split
  · decide
  · exact h
/-- s2 is s but for the token's fields and the fault -/
def frR (s s2 : zσ) : Prop := (∀ a, a ≠ 1001 → a ≠ 1004 → s2.1 a = s.1 a) ∧ (∀ a, a ≠ 1001 → s2.2.1 a = s.2.1 a) ∧ s2.2.2 = s.2.2 ∧ (∀ k, k ≠ 10 → k ≠ 11 → s2.1 1004 k = s.1 1004 k)
theorem frR_rf {s : zσ} : frR s s := ⟨fun _ _ _ => rfl, fun _ _ => rfl, rfl, fun _ _ _ => rfl⟩
theorem frR_tr {s s2 s3 : zσ} (h1 : frR s s2) (h2 : frR s2 s3) : frR s s3 := ⟨fun a b c => (h2.1 a b c).trans (h1.1 a b c), fun a b => (h2.2.1 a b).trans (h1.2.1 a b), h2.2.2.1.trans h1.2.2.1, fun k a b => (h2.2.2.2 k a b).trans (h1.2.2.2 k a b)⟩
/-- t2 is t but for the token's fields and the fault -/
def frT (t t2 : zσ) : Prop := (∀ a, a ≠ 1132 → t2.1 a = t.1 a) ∧ (∀ a, a ≠ 1132 → t2.2.1 a = t.2.1 a) ∧ t2.2.2 = t.2.2 ∧ (∀ k, k ≠ 3 → k ≠ 4 → k ≠ 5 → k ≠ 7 → k ≠ 8 → k ≠ 9 → k ≠ 10 → t2.1 1132 k = t.1 1132 k)
theorem frT_rf {t : zσ} : frT t t := ⟨fun _ _ => rfl, fun _ _ => rfl, rfl, fun _ _ _ _ _ _ _ _ => rfl⟩
theorem frT_tr {t t2 t3 : zσ} (h1 : frT t t2) (h2 : frT t2 t3) : frT t t3 := ⟨fun a b => (h2.1 a b).trans (h1.1 a b), fun a b => (h2.2.1 a b).trans (h1.2.1 a b), h2.2.2.1.trans h1.2.2.1, fun k a b c d e f g => (h2.2.2.2 k a b c d e f g).trans (h1.2.2.2 k a b c d e f g)⟩
theorem frT_N {t t2 : zσ} (h : frN t t2) : frT t t2 := ⟨fun a b => (h.1 a b).1, fun a b => (h.1 a b).2.1, h.2.2.2, fun k a b c d e _ _ => h.2.1 k a b c d e⟩
section ZPM
variable {U : Nat → Nat} {len n q : Nat}
/-- refuse -/
theorem c_refuse {s : zσ} {f : Nat} (h : CG U len q s) : ∃ s2, f32 n (nI f) s = some (-1, s2) ∧ CF (zft U len q f) q s2 ∧ frR s s2 := by
  obtain ⟨⟨h1, h2, h3, h4, h5, h6, -⟩, -⟩ := h
  have hk4 : ¬ s.1 1001 4 = 4 := by rw [h6]; exact tk_ne4 (txC_by h2) h1
  have hgo : ∀ g : Nat, ∃ s2, f32_27 n (nI g) s = some (-1, s2) ∧ CF g q s2 ∧ frR s s2 := by
    intro g
    refine ⟨sI (sI (sI s 1004 10 (nI g)) 1004 11 ((sI s 1004 10 (nI g)).1 1001 5)) 1001 4 4, rfl, ⟨rIe, ?_, ?_⟩, ⟨fun a b c => ?_, fun _ _ => rfl, rfl, fun k a b => ?_⟩⟩
    · rw [rIo (by decide), rIk (by decide), rIe]
    · rw [rIo (by decide), rIe, rIo (by decide), h4]
    · rw [rIo b, rIo c, rIo c]
    · rw [rIo (by decide), rIk b, rIk a]
  unfold f32
  rw [if_neg hk4, h6]
  by_cases h0 : tkKind U len q = 0
  · rw [if_pos h0]
    have e : zft U len q f = 1 := if_pos h0
    rw [e]
    exact hgo 1
  · rw [if_neg h0]
    have e : zft U len q f = f := if_neg h0
    rw [e]
    exact hgo f
theorem c_refuse0 {s : zσ} {x : Int32} (h : s.1 1001 4 = 4) : f32 n x s = some (-1, s) := by
  unfold f32
  rw [if_pos h]
/-- behind a fault a token isn't passed -/
theorem c_adv0 {s : zσ} (h : s.1 1001 4 = 4) : f26 n s = some s := by
  unfold f26
  rw [if_pos h]
theorem zof_frR {s s2 : zσ} (o : zof s s2 1001) : frR s s2 := ⟨fun a b _ => (o.1 a b).1, fun a b => (o.1 a b).2.1, o.2, fun k _ _ => by rw [(o.1 1004 (by decide)).1]⟩
/-- the next token -/
theorem c_adv {s : zσ} (hn : 5000 ≤ n) (h : CG U len q s) : ∃ s2, f26 n s = some s2 ∧ CG U len (tkNx U len q) s2 ∧ zof s s2 1001 := by
  obtain ⟨s2, e, hT, o⟩ := TC_next hn h.1
  exact ⟨s2, e, ⟨hT, by rw [(o.1 1004 (by decide)).1]; exact h.2⟩, o⟩
theorem CG_k {s : zσ} (h : CG U len q s) : s.1 1001 4 = tkKind U len q := h.1.2.2.2.2.2.1
theorem CG_by {s : zσ} (h : CG U len q s) : zby U len := txC_by h.1.2.1
theorem CG_le {s : zσ} (h : CG U len q s) : q ≤ len := h.1.1
/-- want -/
theorem c_want {s : zσ} {c : Int32} (hn : 5000 ≤ n) (h : CG U len q s) : (tkKind U len q = c → ∃ s2, f37 n c s = some s2 ∧ CG U len (tkNx U len q) s2 ∧ zof s s2 1001) ∧ (¬ tkKind U len q = c → ∃ s2, f37 n c s = some s2 ∧ CF (zft U len q 2) q s2 ∧ frR s s2) := by
  unfold f37
  rw [CG_k h]
  constructor
  · intro e
    rw [if_pos e]
    obtain ⟨s2, e2, h2, o⟩ := c_adv hn h
    exact ⟨s2, by rw [e2]; rfl, h2, o⟩
  · intro e
    rw [if_neg e]
    obtain ⟨s2, e2, h2, o⟩ := c_refuse (n := n) (f := 2) h
    exact ⟨s2, by rw [show f32 n 2 s = _ from e2]; rfl, h2, o⟩
theorem c_want0 {s : zσ} {c : Int32} (hc : ¬ c = 4) (h : s.1 1001 4 = 4) : f37 n c s = some s := by
  unfold f37
  rw [h, if_neg (fun e => hc e.symm), c_refuse0 h]
  rfl
/-- accept -/
theorem c_accept {s : zσ} {c : Int32} (hn : 5000 ≤ n) (h : CG U len q s) : (tkKind U len q = c → ∃ s2, f39 n c s = some (1, s2) ∧ CG U len (tkNx U len q) s2 ∧ zof s s2 1001) ∧ (¬ tkKind U len q = c → f39 n c s = some (0, s)) := by
  unfold f39
  rw [CG_k h]
  constructor
  · intro e
    rw [if_pos e]
    obtain ⟨s2, e2, h2, o⟩ := c_adv hn h
    exact ⟨s2, by rw [e2]; rfl, h2, o⟩
  · intro e
    rw [if_neg e]
theorem c_accept0 {s : zσ} {c : Int32} (hc : ¬ c = 4) (h : s.1 1001 4 = 4) : f39 n c s = some (0, s) := by
  unfold f39
  rw [h, if_neg (fun e => hc e.symm)]
/-! the reference's -/
theorem m_goes {t : zσ} (h : t.1 1132 9 = 0) : f167 n t = some (1, t) := by
  unfold f167
  rw [if_pos h]
theorem m_goes0 {t : zσ} (h : ¬ t.1 1132 9 = 0) : f167 n t = some (0, t) := by
  unfold f167
  rw [if_neg h]
theorem MF_ne {f x : Nat} {t : zσ} (h : MF f x t) : ¬ t.1 1132 9 = 0 := by
  obtain ⟨h1, -, h3, h4⟩ := h
  rw [h1]
  exact nI_ne0 h3 (by omega)
theorem m_next {t : zσ} (hn : 5000 ≤ n) (h : MG U len q t) : ∃ t2, f164 n t = some t2 ∧ MG U len (tkNx U len q) t2 ∧ frN t t2 := by
  obtain ⟨t2, e, hT, o⟩ := TM_next hn h.1
  exact ⟨t2, e, ⟨hT, (o.2.1 9 (by decide) (by decide) (by decide) (by decide) (by decide)).trans h.2⟩, o⟩
theorem MG_at {t : zσ} (h : MG U len q t) : t.1 1132 4 = nI q := h.1.2.2.1
theorem m_wrong {t : zσ} {f : Nat} (hf : 0 < f ∧ f < 8) (h : MG U len q t) : ∃ t2, f173 n (nI f) (t.1 1132 4) t = some t2 ∧ MF f q t2 ∧ frT t t2 := by
  unfold f173
  rw [if_pos h.2]
  refine ⟨sI (sI t 1132 9 (nI f)) 1132 10 (t.1 1132 4), rfl, ⟨?_, ?_, hf.1, hf.2⟩, ⟨fun a b => ?_, fun _ _ => rfl, rfl, fun k _ _ _ _ _ a b => ?_⟩⟩
  · rw [rIk (by decide), rIe]
  · rw [rIe, MG_at h]
  · rw [rIo b, rIo b]
  · rw [rIk b, rIk a]
theorem m_wrong0 {t : zσ} {x y : Int32} (h : ¬ t.1 1132 9 = 0) : f173 n x y t = some t := by
  unfold f173
  rw [if_neg h]
theorem m_cant {t : zσ} (h : MG U len q t) : ∃ t2, f172 n t = some t2 ∧ MF (zft U len q 2) q t2 ∧ frT t t2 := by
  unfold f172
  by_cases h0 : tkKind U len q = 0
  · rw [if_pos ((tm_kind h.1).1.mpr h0), show zft U len q 2 = 1 from if_pos h0]
    obtain ⟨t2, e, h2, o⟩ := m_wrong (n := n) (f := 1) (by decide) h
    exact ⟨t2, by unfold f172_14; rw [show f173 n 1 (t.1 1132 4) t = _ from e]; rfl, h2, o⟩
  · rw [if_neg (fun e => h0 ((tm_kind h.1).1.mp e)), show zft U len q 2 = 2 from if_neg h0]
    obtain ⟨t2, e, h2, o⟩ := m_wrong (n := n) (f := 2) (by decide) h
    exact ⟨t2, by unfold f172_14; rw [show f173 n 2 (t.1 1132 4) t = _ from e]; rfl, h2, o⟩
theorem m_cant0 {t : zσ} (h : ¬ t.1 1132 9 = 0) : f172 n t = some t := by
  unfold f172
  have e : ∀ y : Int32, f172_14 n y t = some t := fun y => by unfold f172_14; rw [m_wrong0 h]; rfl
  split
  · exact e 1
  · exact e 2
theorem zone_1 {p : Prop} {i : Decidable p} (h : p) : zone (decide p) = 1 := by simp [zone, h]
theorem zone_0 {p : Prop} {i : Decidable p} (h : ¬ p) : zone (decide p) = 0 := by simp [zone, h]
/-- want, for a sign -/
theorem m_want {t : zσ} {c : Nat} (hn : 5000 ≤ n) (hc : zsg c = true) (hc2 : c < 126) (h : MG U len q t) : (tkKind U len q = nI c → ∃ t2, f179 n (nI c) t = some t2 ∧ MG U len (tkNx U len q) t2 ∧ frT t t2) ∧ (¬ tkKind U len q = nI c → ∃ t2, f179 n (nI c) t = some t2 ∧ MF (zft U len q 2) q t2 ∧ frT t t2) := by
  unfold f179
  rw [m_goes h.2, yb1_s, if_neg (by decide), tm_sign h.1 hc hc2, yb1_s]
  constructor
  · intro e
    rw [zone_1 e, if_neg (by decide)]
    obtain ⟨t2, e2, h2, o⟩ := m_next hn h
    exact ⟨t2, by rw [e2]; rfl, h2, frT_N o⟩
  · intro e
    rw [zone_0 e, if_pos rfl]
    obtain ⟨t2, e2, h2, o⟩ := m_cant (n := n) h
    exact ⟨t2, by rw [e2]; rfl, h2, o⟩
theorem m_want0 {t : zσ} {c : Int32} (h : ¬ t.1 1132 9 = 0) : f179 n c t = some t := by
  unfold f179
  rw [m_goes0 h]
  rfl
end ZPM
