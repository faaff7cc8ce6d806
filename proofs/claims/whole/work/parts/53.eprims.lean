/-! the readers' steps at the level of expressions, in the first pass -/
/-- what holds of the class's reader at every time of a pass: the text, the places of the module, counts in range -/
def BC (U : Nat → Nat) (len b : Nat) (s : zσ) : Prop := txC U len s ∧ wdC s ∧ (∃ p, p ≤ len ∧ s.1 1001 3 = nI p) ∧ s.2.2 1004 4 = some b ∧ s.2.2 1004 5 = some (b + 19) ∧ s.2.2 1004 6 = some (b + 29) ∧ (∃ c, c ≤ 400 ∧ s.1 (b + 19) 11 = nI c) ∧ (∃ c, c ≤ 400 ∧ s.1 (b + 19) 10 = nI c)
/-- s2 is s but for the token, the fault, the depth, the nodes and codes -/
def frE (b : Nat) (s s2 : zσ) : Prop := (∀ a, a ≠ 1001 → a ≠ 1004 → a ≠ b + 19 → a ≠ b + 27 → a ≠ b + 28 → s2.1 a = s.1 a) ∧ (∀ a, a ≠ 1001 → s2.2.1 a = s.2.1 a) ∧ s2.2.2 = s.2.2 ∧ (∀ k, k ≠ 9 → k ≠ 10 → k ≠ 11 → s2.1 1004 k = s.1 1004 k) ∧ (∀ k, k ≠ 10 → k ≠ 11 → s2.1 (b + 19) k = s.1 (b + 19) k)
theorem frE_rf {b : Nat} {s : zσ} : frE b s s := ⟨fun _ _ _ _ _ _ => rfl, fun _ _ => rfl, rfl, fun _ _ _ _ => rfl, fun _ _ _ => rfl⟩
theorem frE_tr {b : Nat} {s s2 s3 : zσ} (h1 : frE b s s2) (h2 : frE b s2 s3) : frE b s s3 := ⟨fun a c d e f g => (h2.1 a c d e f g).trans (h1.1 a c d e f g), fun a c => (h2.2.1 a c).trans (h1.2.1 a c), h2.2.2.1.trans h1.2.2.1, fun k c d e => (h2.2.2.2.1 k c d e).trans (h1.2.2.2.1 k c d e), fun k c d => (h2.2.2.2.2 k c d).trans (h1.2.2.2.2 k c d)⟩
theorem ckb {b : Nat} (h : zck 9 b = true) : b = 1060 ∨ b = 1096 := ck9 h
theorem frE_R {b : Nat} {s s2 : zσ} (hb : zck 9 b = true) (h : frR s s2) : frE b s s2 := ⟨fun a c d _ _ _ => h.1 a c d, h.2.1, h.2.2.1, fun k _ c d => h.2.2.2 k c d, fun k _ _ => by rw [h.1 (b + 19) (by rcases ckb hb with rfl | rfl <;> decide) (by rcases ckb hb with rfl | rfl <;> decide)]⟩
theorem frE_o {b : Nat} {s s2 : zσ} (hb : zck 9 b = true) (h : zof s s2 1001) : frE b s s2 := frE_R hb (zof_frR h)
/-- BC over a step that leaves the counts alone -/
theorem BC_R {U : Nat → Nat} {len b : Nat} {s s2 : zσ} (hb : zck 9 b = true) (h : BC U len b s) (o : frR s s2) (h2 : s2.1 1001 2 = s.1 1001 2) (h3 : ∃ p, p ≤ len ∧ s2.1 1001 3 = nI p) : BC U len b s2 := by
  obtain ⟨⟨a1, a2, a3⟩, b2, -, b4, b5, b6, b7, b8⟩ := h
  have e19 : s2.1 (b + 19) = s.1 (b + 19) := o.1 _ (by rcases ckb hb with rfl | rfl <;> decide) (by rcases ckb hb with rfl | rfl <;> decide)
  refine ⟨⟨a1, h2.trans a2, fun i hi => by rw [o.1 1002 (by decide) (by decide)]; exact a3 i hi⟩, fun i hi => by rw [o.2.1 1003 (by decide)]; exact b2 i hi, h3, ?_, ?_, ?_, ?_, ?_⟩
  · rw [o.2.2.1]; exact b4
  · rw [o.2.2.1]; exact b5
  · rw [o.2.2.1]; exact b6
  · rw [e19]; exact b7
  · rw [e19]; exact b8
section ZEP
variable {U : Nat → Nat} {len n b : Nat}
/-- Text and Statements of the class's reader -/
theorem ck6_of (hb : zck 9 b = true) : zck 6 (b + 19) = true := (cf9_9 hb).2
/-- the class goes on at q / has stopped -/
def GC (U : Nat → Nat) (len b q : Nat) (s : zσ) : Prop := BC U len b s ∧ CG U len q s
def FC (U : Nat → Nat) (len b f x : Nat) (s : zσ) : Prop := BC U len b s ∧ CF f x s
theorem gc_adv {q : Nat} {s : zσ} (hn : 5000 ≤ n) (hb : zck 9 b = true) (h : GC U len b q s) : ∃ s2, f26 n s = some s2 ∧ GC U len b (tkNx U len q) s2 ∧ zof s s2 1001 := by
  obtain ⟨s2, e, h2, o⟩ := c_adv hn h.2
  exact ⟨s2, e, ⟨BC_R hb h.1 (zof_frR o) (h2.1.2.1.2.1.trans h.1.1.2.1.symm) ⟨_, tkEnd_le h2.1.1, h2.1.2.2.2.2.1⟩, h2⟩, o⟩
theorem gc_ref {q f : Nat} {s : zσ} (hb : zck 9 b = true) (h : GC U len b q s) : ∃ s2, f32 n (nI f) s = some (-1, s2) ∧ FC U len b (zft U len q f) q s2 ∧ frR s s2 := by
  obtain ⟨h1, h2, h3, h4, h5, h6, -⟩ := h.2.1
  have hk4 : ¬ s.1 1001 4 = 4 := by rw [h6]; exact tk_ne4 (txC_by h2) h1
  have hgo : ∀ g : Nat, ∃ s2, f32_27 n (nI g) s = some (-1, s2) ∧ FC U len b g q s2 ∧ frR s s2 := by
    intro g
    have o : frR s (sI (sI (sI s 1004 10 (nI g)) 1004 11 ((sI s 1004 10 (nI g)).1 1001 5)) 1001 4 4) := ⟨fun a b c => by rw [rIo b, rIo c, rIo c], fun _ _ => rfl, rfl, fun k a b => by rw [rIo (by decide), rIk b, rIk a]⟩
    refine ⟨_, rfl, ⟨BC_R hb h.1 o ?_ ⟨_, tkEnd_le h1, ?_⟩, rIe, ?_, ?_⟩, o⟩
    · rw [rIk (by decide), rIo (by decide), rIo (by decide)]
    · rw [rIk (by decide), rIo (by decide), rIo (by decide)]; exact h5
    · rw [rIo (by decide), rIk (by decide), rIe]
    · rw [rIo (by decide), rIe, rIo (by decide), h4]
  unfold f32
  rw [if_neg hk4, h6]
  by_cases h0 : tkKind U len q = 0
  · rw [if_pos h0, show zft U len q f = 1 from if_pos h0]
    exact hgo 1
  · rw [if_neg h0, show zft U len q f = f from if_neg h0]
    exact hgo f
theorem fc_4 {f x : Nat} {s : zσ} (h : FC U len b f x s) : s.1 1001 4 = 4 := h.2.1
/-- one count of the statements set -/
theorem BC_19 {k c : Nat} {s : zσ} (hb : zck 9 b = true) (h : BC U len b s) (hc : c ≤ 400) : BC U len b (sI s (b + 19) k (nI c)) := by
  obtain ⟨⟨a1, a2, a3⟩, b2, ⟨p, hp, b3⟩, b4, b5, b6, ⟨c7, h7, b7⟩, ⟨c8, h8, b8⟩⟩ := h
  have n1 : (1001 : Nat) ≠ b + 19 := by rcases ckb hb with rfl | rfl <;> decide
  have n2 : (1002 : Nat) ≠ b + 19 := by rcases ckb hb with rfl | rfl <;> decide
  refine ⟨⟨a1, by rw [rIo n1]; exact a2, fun i hi => by rw [rIo n2]; exact a3 i hi⟩, b2, ⟨p, hp, by rw [rIo n1]; exact b3⟩, b4, b5, b6, ?_, ?_⟩
  · by_cases e : k = 11
    · subst e; exact ⟨c, hc, rIe⟩
    · exact ⟨c7, h7, by rw [rIk (fun q => e q.symm)]; exact b7⟩
  · by_cases e : k = 10
    · subst e; exact ⟨c, hc, rIe⟩
    · exact ⟨c8, h8, by rw [rIk (fun q => e q.symm)]; exact b8⟩
theorem CG_19 {q k : Nat} {v : Int32} {s : zσ} (hb : zck 9 b = true) (h : CG U len q s) : CG U len q (sI s (b + 19) k v) := by
  have n1 : (1001 : Nat) ≠ b + 19 := by rcases ckb hb with rfl | rfl <;> decide
  have n2 : (1002 : Nat) ≠ b + 19 := by rcases ckb hb with rfl | rfl <;> decide
  have n4 : (1004 : Nat) ≠ b + 19 := by rcases ckb hb with rfl | rfl <;> decide
  exact ⟨TC_fr h.1 (rIo n1) (rIo n2) rfl rfl, by rw [rIo n4]; exact h.2⟩
theorem frE_19 {k : Nat} {v : Int32} {s : zσ} (hk : k = 10 ∨ k = 11) (hb : zck 9 b = true) : frE b s (sI s (b + 19) k v) := by
  refine ⟨fun a _ _ c _ _ => rIo c, fun _ _ => rfl, rfl, fun j _ _ _ => ?_, fun j c d => ?_⟩
  · rw [rIo (by rcases ckb hb with rfl | rfl <;> decide)]
  · rcases hk with rfl | rfl
    · exact rIk c
    · exact rIk d
/-- countNode -/
theorem gc_cnt {q nd : Nat} {s : zσ} (hb : zck 9 b = true) (h : GC U len b q s) (hd : s.1 (b + 19) 10 = nI nd) (h4 : nd ≤ 400) : (nd < 400 → f53 n s = some (sI s (b + 19) 10 (nI (nd + 1))) ∧ GC U len b q (sI s (b + 19) 10 (nI (nd + 1)))) ∧ (nd = 400 → ∃ s2, f53 n s = some s2 ∧ FC U len b (zft U len q 3) q s2 ∧ frR s s2) := by
  unfold f53
  rw [h.1.2.2.2.2.1, zrd_s (ck6_of hb), hd]
  constructor
  · intro hlt
    rw [if_pos (show nI nd < 400 from nI_lt (b := 400) hlt (by decide)), zrd_s (ck6_of hb)]
    refine ⟨?_, BC_19 hb h.1 (by omega), CG_19 hb h.2⟩
    show some (sI s (b + 19) 10 (s.1 (b + 19) 10 + 1)) = _
    rw [hd, nI_1]
  · intro he
    rw [if_neg (show ¬ nI nd < 400 from nI_nlt (b := 400) (by omega) (by omega))]
    obtain ⟨s2, e2, h2, o⟩ := gc_ref (n := n) (f := 3) hb h
    exact ⟨s2, by rw [show f32 n 3 s = _ from e2]; rfl, h2, o⟩
/-- node -/
theorem gc_node {q nd : Nat} {s : zσ} (hn : 5000 ≤ n) (hb : zck 9 b = true) (h : GC U len b q s) (hd : s.1 (b + 19) 10 = nI nd) (h4 : nd ≤ 400) : (nd < 400 → ∃ s2, f58 n s = some s2 ∧ GC U len b (tkNx U len q) s2 ∧ zof (sI s (b + 19) 10 (nI (nd + 1))) s2 1001) ∧ (nd = 400 → ∃ s2, f58 n s = some s2 ∧ FC U len b (zft U len q 3) q s2 ∧ frR s s2) := by
  have hk4 : ¬ s.1 1001 4 = 4 := by rw [CG_k h.2]; exact tk_ne4 (CG_by h.2) (CG_le h.2)
  unfold f58
  rw [h.1.2.2.2.2.1, zrd_s (ck6_of hb), hd]
  constructor
  · intro hlt
    rw [if_pos (show nI nd < 400 from nI_lt (b := 400) hlt (by decide)), if_neg hk4, zrd_s (ck6_of hb)]
    obtain ⟨s2, e2, h2, o⟩ := gc_adv hn hb (show GC U len b q (sI s (b + 19) 10 (nI (nd + 1))) from ⟨BC_19 hb h.1 (by omega), CG_19 hb h.2⟩)
    refine ⟨s2, ?_, h2, o⟩
    show yb0 (f26 n (sI s (b + 19) 10 (s.1 (b + 19) 10 + 1))) _ = _
    rw [hd, nI_1, e2]
    rfl
  · intro he
    rw [if_neg (show ¬ nI nd < 400 from nI_nlt (b := 400) (by omega) (by omega))]
    obtain ⟨s2, e2, h2, o⟩ := gc_ref (n := n) (f := 3) hb h
    exact ⟨s2, by rw [show f32 n 3 s = _ from e2]; rfl, h2, o⟩
/-- node, behind a fault -/
theorem fc_node {f x : Nat} {s : zσ} (hb : zck 9 b = true) (h : FC U len b f x s) : f58 n s = some s := by
  obtain ⟨c, hc, e⟩ := h.1.2.2.2.2.2.2.2
  unfold f58
  rw [h.1.2.2.2.2.1, zrd_s (ck6_of hb), fc_4 h, c_refuse0 (fc_4 h)]
  split
  · rw [if_pos rfl]
  · rfl
/-- emit: nothing but op, arg and codes -/
theorem bc_emit {c d : Int32} {s : zσ} (hb : zck 9 b = true) (h : BC U len b s) : ∃ s2, f54 n (b + 19) c d s = some s2 ∧ BC U len b s2 ∧ frE b s s2 ∧ s2.1 1001 = s.1 1001 ∧ s2.1 1004 = s.1 1004 ∧ s2.1 (b + 19) 10 = s.1 (b + 19) 10 ∧ (∀ cd, s.1 (b + 19) 11 = nI cd → cd < 400 → s2.1 (b + 19) 11 = nI (cd + 1)) ∧ s2.2 = s.2 := by
  obtain ⟨cd, hc, e⟩ := h.2.2.2.2.2.2.1
  unfold f54
  rw [e]
  by_cases hlt : cd < 400
  · have hin : zin? (nI cd) 400 = true := zin_nI hlt (by decide)
    have e1 : (sI s (b + 19 + 8) (nx (nI cd)) c).1 (b + 19) 11 = nI cd := by rw [rIo (by omega), e]
    have e2 : (sI (sI s (b + 19 + 8) (nx (nI cd)) c) (b + 19 + 9) (nx (nI cd)) d).1 (b + 19) 11 = nI cd := by rw [rIo (by omega), e1]
    have hsame : ∀ a, a ≠ b + 19 + 8 → a ≠ b + 19 + 9 → a ≠ b + 19 → (sI (sI (sI s (b + 19 + 8) (nx (nI cd)) c) (b + 19 + 9) (nx (nI cd)) d) (b + 19) 11 (nI (cd + 1))).1 a = s.1 a := fun a h1 h2 h3 => by rw [rIo h3, rIo h2, rIo h1]
    have m1 := hsame 1001 (by rcases ckb hb with rfl | rfl <;> decide) (by rcases ckb hb with rfl | rfl <;> decide) (by rcases ckb hb with rfl | rfl <;> decide)
    have m2 := hsame 1002 (by rcases ckb hb with rfl | rfl <;> decide) (by rcases ckb hb with rfl | rfl <;> decide) (by rcases ckb hb with rfl | rfl <;> decide)
    have m4 := hsame 1004 (by rcases ckb hb with rfl | rfl <;> decide) (by rcases ckb hb with rfl | rfl <;> decide) (by rcases ckb hb with rfl | rfl <;> decide)
    have m10 : ∀ k, k ≠ 11 → (sI (sI (sI s (b + 19 + 8) (nx (nI cd)) c) (b + 19 + 9) (nx (nI cd)) d) (b + 19) 11 (nI (cd + 1))).1 (b + 19) k = s.1 (b + 19) k := fun k hk => by rw [rIk hk, rIo (by omega), rIo (by omega)]
    refine ⟨sI (sI (sI s (b + 19 + 8) (nx (nI cd)) c) (b + 19 + 9) (nx (nI cd)) d) (b + 19) 11 (nI (cd + 1)), ?_, ?_, ⟨fun a _ _ h3 h4 h5 => hsame a h4 h5 h3, fun _ _ => rfl, rfl, fun k _ _ _ => by rw [m4], fun k _ hk => m10 k hk⟩, m1, m4, m10 10 (by decide), fun cd2 he _ => ?_, rfl⟩
    · rw [if_pos (show nI cd < 400 from nI_lt (b := 400) hlt (by decide)), if_pos hin]
      show (if zin? ((sI s (b + 19 + 8) (nx (nI cd)) c).1 (b + 19) 11) 400 = true then _ else none) = _
      rw [e1, if_pos hin]
      show some (sI (sI (sI s (b + 19 + 8) (nx (nI cd)) c) (b + 19 + 9) (nx (nI cd)) d) (b + 19) 11 ((sI (sI s (b + 19 + 8) (nx (nI cd)) c) (b + 19 + 9) (nx (nI cd)) d).1 (b + 19) 11 + 1)) = _
      rw [e2, nI_1]
    · obtain ⟨⟨a1, a2, a3⟩, b2, ⟨p, hp, b3⟩, b4, b5, b6, -, ⟨c8, h8, b8⟩⟩ := h
      exact ⟨⟨a1, by rw [m1]; exact a2, fun i hi => by rw [m2]; exact a3 i hi⟩, b2, ⟨p, hp, by rw [m1]; exact b3⟩, b4, b5, b6, ⟨cd + 1, by omega, rIe⟩, ⟨c8, h8, by rw [m10 10 (by decide)]; exact b8⟩⟩
    · rw [rIe]
      have : cd2 = cd := (nI_eq (by omega) (by omega)).mp (he.symm.trans e)
      rw [this]
  · rw [if_neg (show ¬ nI cd < 400 from nI_nlt (b := 400) (by omega) (by omega))]
    refine ⟨s, rfl, h, frE_rf, rfl, rfl, rfl, fun cd2 he h2 => ?_, rfl⟩
    exfalso
    have : cd2 = cd := (nI_eq (by omega) (by omega)).mp (he.symm.trans e)
    omega
theorem gc_emit {q : Nat} {c d : Int32} {s : zσ} (hb : zck 9 b = true) (h : GC U len b q s) : ∃ s2, f54 n (b + 19) c d s = some s2 ∧ GC U len b q s2 ∧ frE b s s2 ∧ s2.1 1004 = s.1 1004 ∧ s2.1 (b + 19) 10 = s.1 (b + 19) 10 ∧ (∀ cd, s.1 (b + 19) 11 = nI cd → cd < 400 → s2.1 (b + 19) 11 = nI (cd + 1)) := by
  obtain ⟨s2, e, h2, o, e1, e4, e10, e11, e22⟩ := bc_emit (n := n) (c := c) (d := d) hb h.1
  exact ⟨s2, e, ⟨h2, TC_fr h.2.1 e1 (o.1 1002 (by decide) (by decide) (by rcases ckb hb with rfl | rfl <;> decide) (by rcases ckb hb with rfl | rfl <;> decide) (by rcases ckb hb with rfl | rfl <;> decide)) (by rw [e22]) (by rw [e22]), by rw [e4]; exact h.2.2⟩, o, e4, e10, e11⟩
theorem fc_emit {f x : Nat} {c d : Int32} {s : zσ} (hb : zck 9 b = true) (h : FC U len b f x s) : ∃ s2, f54 n (b + 19) c d s = some s2 ∧ FC U len b f x s2 ∧ frE b s s2 := by
  obtain ⟨s2, e, h2, o, e1, e4, -, -, -⟩ := bc_emit (n := n) (c := c) (d := d) hb h.1
  exact ⟨s2, e, ⟨h2, by rw [e1]; exact h.2.1, by rw [e4]; exact h.2.2.1, by rw [e4]; exact h.2.2.2⟩, o⟩
end ZEP
