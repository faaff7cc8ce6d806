/-! the rest of the readers' steps at the level of expressions -/
section ZEQ
variable {U : Nat → Nat} {len n b : Nat}
theorem BC_9 {v : Int32} {s : zσ} (hb : zck 9 b = true) (h : BC U len b s) : BC U len b (sI s 1004 9 v) := by
  obtain ⟨⟨a1, a2, a3⟩, b2, ⟨p, hp, b3⟩, b4, b5, b6, ⟨c7, h7, b7⟩, ⟨c8, h8, b8⟩⟩ := h
  have n1 : b + 19 ≠ 1004 := by rcases ckb hb with rfl | rfl <;> decide
  exact ⟨⟨a1, by rw [rIo (by decide)]; exact a2, fun i hi => by rw [rIo (by decide)]; exact a3 i hi⟩, b2, ⟨p, hp, by rw [rIo (by decide)]; exact b3⟩, b4, b5, b6, ⟨c7, h7, by rw [rIo n1]; exact b7⟩, ⟨c8, h8, by rw [rIo n1]; exact b8⟩⟩
theorem CG_9 {q : Nat} {v : Int32} {s : zσ} (h : CG U len q s) : CG U len q (sI s 1004 9 v) := ⟨TC_fr h.1 (rIo (by decide)) (rIo (by decide)) rfl rfl, by rw [rIk (by decide)]; exact h.2⟩
theorem GC_9 {q : Nat} {v : Int32} {s : zσ} (hb : zck 9 b = true) (h : GC U len b q s) : GC U len b q (sI s 1004 9 v) := ⟨BC_9 hb h.1, CG_9 h.2⟩
theorem FC_9 {f x : Nat} {v : Int32} {s : zσ} (hb : zck 9 b = true) (h : FC U len b f x s) : FC U len b f x (sI s 1004 9 v) := ⟨BC_9 hb h.1, by rw [rIo (by decide)]; exact h.2.1, by rw [rIk (by decide)]; exact h.2.2.1, by rw [rIk (by decide)]; exact h.2.2.2⟩
theorem frE_9 {v : Int32} {s : zσ} (hb : zck 9 b = true) : frE b s (sI s 1004 9 v) := ⟨fun a _ c _ _ _ => rIo c, fun _ _ => rfl, rfl, fun k c _ _ => rIk c, fun k _ _ => by rw [rIo (by rcases ckb hb with rfl | rfl <;> decide)]⟩
/-- deeper -/
theorem gc_deep {q dp : Nat} {c : Int32} {s : zσ} (hn : 5000 ≤ n) (hb : zck 9 b = true) (h : GC U len b q s) (hd : s.1 1004 9 = nI dp) (h12 : dp ≤ 12) (hc : tkKind U len q = c) : (dp < 12 → ∃ s2, f41 n c s = some (1, s2) ∧ GC U len b (tkNx U len q) s2 ∧ zof (sI s 1004 9 (nI (dp + 1))) s2 1001) ∧ (dp = 12 → ∃ s2, f41 n c s = some (0, s2) ∧ FC U len b (zft U len q 3) q s2 ∧ frR s s2) := by
  unfold f41
  rw [CG_k h.2, if_pos hc, hd]
  constructor
  · intro hlt
    rw [if_pos (show nI dp < 12 from nI_lt (b := 12) hlt (by decide))]
    obtain ⟨s2, e2, h2, o⟩ := gc_adv hn hb (GC_9 (v := nI (dp + 1)) hb h)
    refine ⟨s2, ?_, h2, o⟩
    show yb0 (f26 n (sI s 1004 9 (nI dp + 1))) _ = _
    rw [nI_1, e2]
    rfl
  · intro he
    rw [if_neg (show ¬ nI dp < 12 from nI_nlt (b := 12) (by omega) (by omega))]
    obtain ⟨s2, e2, h2, o⟩ := gc_ref (n := n) (f := 3) hb h
    exact ⟨s2, by rw [show f32 n 3 s = _ from e2]; rfl, h2, o⟩
theorem fc_deep {f x : Nat} {c : Int32} {s : zσ} (hc : ¬ c = 4) (h : FC U len b f x s) : f41 n c s = some (0, s) := by
  unfold f41
  rw [fc_4 h, if_neg (fun e => hc e.symm), c_refuse0 (fc_4 h)]
  rfl
/-- meaning, in the first pass -/
theorem gc_mean {q : Nat} {x : Int32} {s : zσ} (hn : 5000 ≤ n) (hb : zck 9 b = true) (h : GC U len b q s) (hk : s.1 1004 7 = 0) : (tkKind U len q = 1 → ∃ s2, f57 n x s = some (0, s2) ∧ GC U len b (tkNx U len q) s2 ∧ zof s s2 1001) ∧ (¬ tkKind U len q = 1 → ∃ s2, f57 n x s = some (-1, s2) ∧ FC U len b (zft U len q 2) q s2 ∧ frR s s2) := by
  unfold f57
  rw [CG_k h.2]
  constructor
  · intro e
    rw [if_pos e, if_pos hk]
    unfold f57_100
    rw [if_neg (by decide)]
    obtain ⟨s2, e2, h2, o⟩ := gc_adv hn hb h
    exact ⟨s2, by rw [e2]; rfl, h2, o⟩
  · intro e
    rw [if_neg e]
    obtain ⟨s2, e2, h2, o⟩ := gc_ref (n := n) (f := 2) hb h
    exact ⟨s2, by rw [show f32 n 2 s = _ from e2]; rfl, h2, o⟩
theorem fc_mean {f x : Nat} {y : Int32} {s : zσ} (h : FC U len b f x s) : f57 n y s = some (-1, s) := by
  unfold f57
  rw [fc_4 h, if_neg (by decide), c_refuse0 (fc_4 h)]
  rfl
/-- peek -/
theorem peek_L {s : zσ} (hT : txC U len s) : ∀ (m p j : Nat), len - p = m → p ≤ len → m < j → f56_5 n j (nI p) s = some (if zsk U len p < len then sb (U (zsk U len p)) else 0, s) := by
  intro m
  have hl := hT.1
  induction m with
  | zero =>
    intro p j hm hp hj
    obtain ⟨j, rfl⟩ : ∃ j0, j = j0 + 1 := ⟨j - 1, by omega⟩
    have e : p = len := by omega
    subst e
    rw [f56_5, hT.2.1, if_neg Int32.lt_irrefl, zsk_l, if_neg (Nat.lt_irrefl _)]
    unfold f56_41
    rw [hT.2.1, if_neg Int32.lt_irrefl]
  | succ m ih =>
    intro p j hm hp hj
    obtain ⟨j, rfl⟩ : ∃ j0, j = j0 + 1 := ⟨j - 1, by omega⟩
    have hlt : p < len := by omega
    obtain ⟨hu, hb⟩ := hT.2.2 p hlt
    obtain ⟨-, b2, b3, -⟩ := sb_f hu
    have hin : zin? (nI p) 4000 = true := zin_nI (by omega) (by decide)
    have h35 : f56_35 n (f56_5 n j) (nI p) s = f56_5 n j (nI (p + 1)) s := by
      show f56_5 n j (nI p + 1) s = _
      rw [nI_1]
    have hih := ih (p + 1) j (by omega) (by omega) (by omega)
    rw [f56_5, hT.2.1, if_pos (nI_lt hlt (by omega)), if_pos hin, nx_nI (show p < 2 ^ 31 by omega), hb]
    by_cases h1 : U p = 32
    · rw [if_pos (b2.mpr h1), zsk_s hlt (by simp [zblU, h1]), h35]
      exact hih
    · rw [if_neg (fun q => h1 (b2.mp q)), if_pos hin]
      by_cases h2 : U p = 10
      · rw [if_pos (b3.mpr h2), zsk_s hlt (by simp [zblU, h2]), h35]
        exact hih
      · rw [if_neg (fun q => h2 (b3.mp q)), zsk_n (by simp [zblU, h1, h2]), if_pos hlt]
        unfold f56_41
        rw [hT.2.1, if_pos (nI_lt hlt (by omega)), if_pos hin, nx_nI (show p < 2 ^ 31 by omega), hb]
theorem bc_peek {p : Nat} {s : zσ} (hn : 5000 ≤ n) (hT : txC U len s) (h3 : s.1 1001 3 = nI p) (hp : p ≤ len) : f56 n s = some (if zsk U len p < len then sb (U (zsk U len p)) else 0, s) := by
  have hl := hT.1
  show f56_5 n n (s.1 1001 3) s = _
  rw [h3]
  exact peek_L hT (len - p) p n rfl hp (by omega)
/-- the first byte of a sign tells the token -/
theorem tk_byte {q c : Nat} (hU : zby U len) (hq : q ≤ len) (hc : zsg c = true) (hc2 : c < 126) : tkKind U len q = nI c ↔ (q < len ∧ U q = c) := by
  have hcb := zsg_b hc (by omega)
  constructor
  · intro e
    rcases tk_cases hU hq with ⟨-, e2, -⟩ | ⟨-, e2, -⟩ | ⟨-, -, ⟨w, hw, -, e2⟩, -⟩ | ⟨-, -, -, e2, -⟩ | ⟨-, -, -, e2, -⟩ | ⟨hlt, -, -, hs, e2, -⟩
    · exfalso; have := (nIe (u := 3) (k := c) (by decide) (by omega)).mp (e2.symm.trans e); omega
    · exfalso; have := (nIe (u := 0) (k := c) (by decide) (by omega)).mp (e2.symm.trans e); omega
    · exfalso; have := (nIe (u := 128 + w) (k := c) (by omega) (by omega)).mp (e2.symm.trans e); omega
    · exfalso; have := (nIe (u := 1) (k := c) (by decide) (by omega)).mp (e2.symm.trans e); omega
    · exfalso; have := (nIe (u := 2) (k := c) (by decide) (by omega)).mp (e2.symm.trans e); omega
    · exact ⟨hlt, (nIe (hU q hlt) (by omega)).mp (e2.symm.trans e)⟩
  · rintro ⟨hlt, rfl⟩
    have hnl : ¬ zltU (U q) = true ∧ ¬ zfgU (U q) = true := by
      have : ∀ u : Fin 256, zsg u.1 = true → ¬ zltU u.1 = true ∧ ¬ zfgU u.1 = true := by decide +kernel
      exact this ⟨U q, by omega⟩ hc
    unfold tkKind
    rw [if_neg (by omega), if_neg hnl.1, if_neg hnl.2, if_neg (fun e => by rw [(zsg_1 (by omega)).mp e] at hc; cases hc)]
theorem sb_91 : ∀ u : Fin 256, sb u.1 = 91 ↔ u.1 = 91 := by decide +kernel
theorem gc_peek {q : Nat} {s : zσ} (hn : 5000 ≤ n) (h : GC U len b q s) : ∃ v, f56 n s = some (v, s) ∧ (v = 91 ↔ tkKind U len (tkNx U len q) = 91) := by
  have hU := CG_by h.2
  have hq := CG_le h.2
  refine ⟨_, bc_peek hn h.1.1 h.2.1.2.2.2.2.1 (tkEnd_le hq), ?_⟩
  rw [show (91 : Int32) = nI 91 from rfl, tk_byte hU (tkNx_le hq) (by decide) (by decide)]
  show ((if tkNx U len q < len then sb (U (tkNx U len q)) else 0) = 91 ↔ _)
  by_cases hlt : tkNx U len q < len
  · rw [if_pos hlt]
    exact ⟨fun e => ⟨hlt, (sb_91 ⟨_, hU _ hlt⟩).mp e⟩, fun e => (sb_91 ⟨_, hU _ hlt⟩).mpr e.2⟩
  · rw [if_neg hlt]
    exact ⟨fun e => absurd e (by decide), fun e => absurd e.1 hlt⟩
theorem fc_peek {f x : Nat} {s : zσ} (hn : 5000 ≤ n) (h : FC U len b f x s) : ∃ v, f56 n s = some (v, s) := by
  obtain ⟨hT, -, ⟨p, hp, h3⟩, -⟩ := h.1
  exact ⟨_, bc_peek hn hT h3 hp⟩
end ZEQ
/-! the reference's -/
/-- what holds of the reference's reader at every time -/
def BM (U : Nat → Nat) (len tb : Nat) (t : zσ) : Prop := txM U len t ∧ (∃ p, p ≤ len ∧ t.1 1132 5 = nI p) ∧ t.2.2 1132 12 = some tb ∧ (∃ c, c ≤ 400 ∧ t.1 tb 27 = nI c) ∧ (∃ c, c ≤ 400 ∧ t.1 tb 31 = nI c) ∧ (∃ c, c < 1400 ∧ t.1 tb 34 = nI c)
def GM (U : Nat → Nat) (len tb q : Nat) (t : zσ) : Prop := BM U len tb t ∧ MG U len q t
def FM (U : Nat → Nat) (len tb f x : Nat) (t : zσ) : Prop := BM U len tb t ∧ MF f x t
/-- t2 is t but for the token, the fault, the nesting, nodes, codes and uses -/
def frM (tb : Nat) (t t2 : zσ) : Prop := (∀ a, a ≠ 1132 → a ≠ tb → ¬ (tb + 27 ≤ a ∧ a ≤ tb + 35) → t2.1 a = t.1 a) ∧ (∀ a, a ≠ 1132 → a ≠ tb + 29 → t2.2.1 a = t.2.1 a) ∧ t2.2.2 = t.2.2 ∧ (∀ k, k ≠ 3 → k ≠ 4 → k ≠ 5 → k ≠ 7 → k ≠ 8 → k ≠ 9 → k ≠ 10 → k ≠ 14 → t2.1 1132 k = t.1 1132 k) ∧ (∀ k, k ≠ 27 → k ≠ 31 → k ≠ 34 → t2.1 tb k = t.1 tb k)
theorem frM_rf {tb : Nat} {t : zσ} : frM tb t t := ⟨fun _ _ _ _ => rfl, fun _ _ _ => rfl, rfl, fun _ _ _ _ _ _ _ _ _ => rfl, fun _ _ _ _ => rfl⟩
theorem frM_tr {tb : Nat} {t t2 t3 : zσ} (h1 : frM tb t t2) (h2 : frM tb t2 t3) : frM tb t t3 := ⟨fun a b c d => (h2.1 a b c d).trans (h1.1 a b c d), fun a b c => (h2.2.1 a b c).trans (h1.2.1 a b c), h2.2.2.1.trans h1.2.2.1, fun k a b c d e f g h => (h2.2.2.2.1 k a b c d e f g h).trans (h1.2.2.2.1 k a b c d e f g h), fun k a b c => (h2.2.2.2.2 k a b c).trans (h1.2.2.2.2 k a b c)⟩
theorem ckm {tb : Nat} (h : zck 12 tb = true) : tb = 1134 ∨ tb = 1170 := ck12 h
theorem frM_T {tb : Nat} {t t2 : zσ} (hb : zck 12 tb = true) (h : frT t t2) : frM tb t t2 := ⟨fun a b _ _ => h.1 a b, fun a b _ => h.2.1 a b, h.2.2.1, fun k a b c d e f g _ => h.2.2.2 k a b c d e f g, fun k _ _ _ => by rw [h.1 tb (by rcases ckm hb with rfl | rfl <;> decide)]⟩
theorem BM_T {U : Nat → Nat} {len tb : Nat} {t t2 : zσ} (hb : zck 12 tb = true) (h : BM U len tb t) (o : frT t t2) (h5 : ∃ p, p ≤ len ∧ t2.1 1132 5 = nI p) : BM U len tb t2 := by
  obtain ⟨⟨a1, a2, a3⟩, -, b3, b4, b5, b6⟩ := h
  have e : t2.1 tb = t.1 tb := o.1 tb (by rcases ckm hb with rfl | rfl <;> decide)
  refine ⟨⟨a1, ?_, fun i hi => by rw [o.1 1133 (by decide)]; exact a3 i hi⟩, h5, by rw [o.2.2.1]; exact b3, by rw [e]; exact b4, by rw [e]; exact b5, by rw [e]; exact b6⟩
  rw [o.2.2.2 1 (by decide) (by decide) (by decide) (by decide) (by decide) (by decide) (by decide)]
  exact a2
section ZEM
variable {U : Nat → Nat} {len n tb : Nat}
theorem TM_5 {q : Nat} {t : zσ} (h : TM U len q t) : ∃ p, p ≤ len ∧ t.1 1132 5 = nI p := by
  obtain ⟨p, hp, h5, -⟩ := h.2.2.2.2.1
  exact ⟨p, hp, h5⟩
theorem gm_next {q : Nat} {t : zσ} (hn : 5000 ≤ n) (hb : zck 12 tb = true) (h : GM U len tb q t) : ∃ t2, f164 n t = some t2 ∧ GM U len tb (tkNx U len q) t2 ∧ frT t t2 := by
  obtain ⟨t2, e, h2, o⟩ := m_next hn h.2
  exact ⟨t2, e, ⟨BM_T hb h.1 (frT_N o) (TM_5 h2.1), h2⟩, frT_N o⟩
theorem fm_next {f x : Nat} {t : zσ} (hn : 5000 ≤ n) (hb : zck 12 tb = true) (h : FM U len tb f x t) : ∃ t2, f164 n t = some t2 ∧ FM U len tb f x t2 ∧ frT t t2 := by
  obtain ⟨p, hp, h5⟩ := h.1.2.1
  obtain ⟨t2, e, h2, o⟩ := TM_of hn h.1.1 h5 hp
  have o2 := frT_N o
  refine ⟨t2, e, ⟨BM_T hb h.1 o2 (TM_5 h2), ?_, ?_, h.2.2.2⟩, o2⟩
  · rw [o.2.1 9 (by decide) (by decide) (by decide) (by decide) (by decide)]; exact h.2.1
  · rw [o.2.1 10 (by decide) (by decide) (by decide) (by decide) (by decide)]; exact h.2.2.1
theorem gm_wrong {q f : Nat} {t : zσ} (hb : zck 12 tb = true) (hf : 0 < f ∧ f < 8) (h : GM U len tb q t) : ∃ t2, f173 n (nI f) (t.1 1132 4) t = some t2 ∧ FM U len tb f q t2 ∧ frT t t2 := by
  have e : f173 n (nI f) (t.1 1132 4) t = some (sI (sI t 1132 9 (nI f)) 1132 10 (t.1 1132 4)) := by unfold f173; rw [if_pos h.2.2]; rfl
  have o : frT t (sI (sI t 1132 9 (nI f)) 1132 10 (t.1 1132 4)) := ⟨fun a b => by rw [rIo b, rIo b], fun _ _ => rfl, rfl, fun k _ _ _ _ _ a b => by rw [rIk b, rIk a]⟩
  obtain ⟨p, hp, h5⟩ := TM_5 h.2.1
  refine ⟨_, e, ⟨BM_T hb h.1 o ⟨p, hp, by rw [rIk (by decide), rIk (by decide)]; exact h5⟩, ?_, ?_, hf.1, hf.2⟩, o⟩
  · rw [rIk (by decide), rIe]
  · rw [rIe, MG_at h.2]
theorem gm_cant {q : Nat} {t : zσ} (hb : zck 12 tb = true) (h : GM U len tb q t) : ∃ t2, f172 n t = some t2 ∧ FM U len tb (zft U len q 2) q t2 ∧ frT t t2 := by
  unfold f172
  by_cases h0 : tkKind U len q = 0
  · rw [if_pos ((tm_kind h.2.1).1.mpr h0), show zft U len q 2 = 1 from if_pos h0]
    obtain ⟨t2, e, h2, o⟩ := gm_wrong (n := n) (f := 1) hb (by decide) h
    exact ⟨t2, by unfold f172_14; rw [show f173 n 1 (t.1 1132 4) t = _ from e]; rfl, h2, o⟩
  · rw [if_neg (fun e => h0 ((tm_kind h.2.1).1.mp e)), show zft U len q 2 = 2 from if_neg h0]
    obtain ⟨t2, e, h2, o⟩ := gm_wrong (n := n) (f := 2) hb (by decide) h
    exact ⟨t2, by unfold f172_14; rw [show f173 n 2 (t.1 1132 4) t = _ from e]; rfl, h2, o⟩
theorem fm_ne {f x : Nat} {t : zσ} (h : FM U len tb f x t) : ¬ t.1 1132 9 = 0 := MF_ne h.2
/-- want -/
theorem gm_want {q c : Nat} {t : zσ} (hn : 5000 ≤ n) (hb : zck 12 tb = true) (hc : zsg c = true) (hc2 : c < 126) (h : GM U len tb q t) : (tkKind U len q = nI c → ∃ t2, f179 n (nI c) t = some t2 ∧ GM U len tb (tkNx U len q) t2 ∧ frT t t2) ∧ (¬ tkKind U len q = nI c → ∃ t2, f179 n (nI c) t = some t2 ∧ FM U len tb (zft U len q 2) q t2 ∧ frT t t2) := by
  unfold f179
  rw [m_goes h.2.2, yb1_s, if_neg (by decide), tm_sign h.2.1 hc hc2, yb1_s]
  constructor
  · intro e
    rw [zone_1 e, if_neg (by decide)]
    obtain ⟨t2, e2, h2, o⟩ := gm_next hn hb h
    exact ⟨t2, by rw [e2]; rfl, h2, o⟩
  · intro e
    rw [zone_0 e, if_pos rfl]
    obtain ⟨t2, e2, h2, o⟩ := gm_cant (n := n) hb h
    exact ⟨t2, by rw [e2]; rfl, h2, o⟩
theorem fm_want {f x : Nat} {c : Int32} {t : zσ} (h : FM U len tb f x t) : f179 n c t = some t := m_want0 (fm_ne h)
/-- one count of the draft set -/
theorem BM_tb {k c : Nat} {t : zσ} (hb : zck 12 tb = true) (h : BM U len tb t) (hc : (k = 34 ∧ c < 1400) ∨ c ≤ 400 ∧ k ≠ 34) : BM U len tb (sI t tb k (nI c)) := by
  obtain ⟨⟨a1, a2, a3⟩, ⟨p, hp, b2⟩, b3, ⟨c4, h4, b4⟩, ⟨c5, h5, b5⟩, ⟨c6, h6, b6⟩⟩ := h
  have n1 : (1132 : Nat) ≠ tb := by rcases ckm hb with rfl | rfl <;> decide
  have n2 : (1133 : Nat) ≠ tb := by rcases ckm hb with rfl | rfl <;> decide
  refine ⟨⟨a1, by rw [rIo n1]; exact a2, fun i hi => by rw [rIo n2]; exact a3 i hi⟩, ⟨p, hp, by rw [rIo n1]; exact b2⟩, b3, ?_, ?_, ?_⟩
  · by_cases e : k = 27
    · subst e; exact ⟨c, by omega, rIe⟩
    · exact ⟨c4, h4, by rw [rIk (fun q => e q.symm)]; exact b4⟩
  · by_cases e : k = 31
    · subst e; exact ⟨c, by omega, rIe⟩
    · exact ⟨c5, h5, by rw [rIk (fun q => e q.symm)]; exact b5⟩
  · by_cases e : k = 34
    · subst e; exact ⟨c, by omega, rIe⟩
    · exact ⟨c6, h6, by rw [rIk (fun q => e q.symm)]; exact b6⟩
theorem TM_a {a q k : Nat} {v : Int32} {t : zσ} (h1 : (1132 : Nat) ≠ a) (h2 : (1133 : Nat) ≠ a) (h : TM U len q t) : TM U len q (sI t a k v) := TM_fr h (fun k _ => by rw [rIo h1]) (rIo h2) rfl
theorem MG_a {a q k : Nat} {v : Int32} {t : zσ} (h1 : (1132 : Nat) ≠ a) (h2 : (1133 : Nat) ≠ a) (h : MG U len q t) : MG U len q (sI t a k v) := ⟨TM_a h1 h2 h.1, by rw [rIo h1]; exact h.2⟩
theorem n_tb (hb : zck 12 tb = true) (k : Nat) : (1132 : Nat) ≠ tb + k ∧ (1133 : Nat) ≠ tb + k := by rcases ckm hb with rfl | rfl <;> constructor <;> omega
theorem frM_tb {k : Nat} {v : Int32} {t : zσ} (hk : k = 27 ∨ k = 31 ∨ k = 34) (hb : zck 12 tb = true) : frM tb t (sI t tb k v) := by
  refine ⟨fun a _ c _ => rIo c, fun _ _ _ => rfl, rfl, fun j _ _ _ _ _ _ _ _ => ?_, fun j c d e => ?_⟩
  · rw [rIo (n_tb hb 0).1]
  · rcases hk with rfl | rfl | rfl
    · exact rIk c
    · exact rIk d
    · exact rIk e
/-- node -/
theorem gm_node {q nd : Nat} {t : zσ} (hb : zck 12 tb = true) (h : GM U len tb q t) (hd : t.1 tb 27 = nI nd) (h4 : nd ≤ 400) : (nd < 400 → f195 n t = some (sI t tb 27 (nI (nd + 1))) ∧ GM U len tb q (sI t tb 27 (nI (nd + 1)))) ∧ (nd = 400 → ∃ t2, f195 n t = some t2 ∧ FM U len tb 3 q t2 ∧ frT t t2) := by
  have h29 : ∀ t : zσ, t.2.2 1132 12 = some tb → t.1 1132 9 = 0 → f195_29 n t = some (sI t tb 27 (t.1 tb 27 + 1)) := by
    intro t h1 h2
    unfold f195_29
    rw [h1, zrd_s hb, m_goes h2, yb1_s, if_neg (by decide)]
    rfl
  have h29f : ∀ t : zσ, t.2.2 1132 12 = some tb → ¬ t.1 1132 9 = 0 → f195_29 n t = some t := by
    intro t h1 h2
    unfold f195_29
    rw [h1, zrd_s hb, m_goes0 h2, yb1_s, if_pos rfl]
    show some (sI t tb 27 (t.1 tb 27 + 0)) = some t
    rw [Int32.add_zero, sI_id rfl]
  unfold f195
  rw [m_goes h.2.2, yb1_s, if_neg (by decide), h.1.2.2.1, zrd_s hb, hd]
  constructor
  · intro hlt
    rw [if_neg (fun e => by have := (nI_eq (a := nd) (b := 400) (by omega) (by decide)).mp e; omega), h29 t h.1.2.2.1 h.2.2, hd, nI_1]
    exact ⟨rfl, BM_tb hb h.1 (Or.inr ⟨by omega, by decide⟩), MG_a (n_tb hb 0).1 (n_tb hb 0).2 h.2⟩
  · intro he
    subst he
    rw [if_pos rfl]
    obtain ⟨t2, e, h2, o⟩ := gm_wrong (n := n) (f := 3) hb (by decide) h
    exact ⟨t2, by rw [show f173 n 3 (t.1 1132 4) t = _ from e, yb0_s, h29f t2 h2.1.2.2.1 (fm_ne h2)], h2, o⟩
/-- deeper -/
theorem gm_deep {q dp : Nat} {t : zσ} (hb : zck 12 tb = true) (h : GM U len tb q t) (hd : t.1 1132 14 = nI dp) (h12 : dp ≤ 12) : (dp < 12 → f182 n t = some (sI t 1132 14 (nI (dp + 1))) ∧ GM U len tb q (sI t 1132 14 (nI (dp + 1)))) ∧ (dp = 12 → ∃ t2, f182 n t = some t2 ∧ FM U len tb 3 q t2 ∧ frM tb t t2) := by
  have hBM : ∀ (v : Int32) (t : zσ), BM U len tb t → BM U len tb (sI t 1132 14 v) := by
    intro v t h
    obtain ⟨⟨a1, a2, a3⟩, ⟨p, hp, b2⟩, b3, b4, b5, b6⟩ := h
    have n1 : tb ≠ 1132 := fun e => (n_tb hb 0).1 e.symm
    exact ⟨⟨a1, by rw [rIk (by decide)]; exact a2, fun i hi => by rw [rIo (by decide)]; exact a3 i hi⟩, ⟨p, hp, by rw [rIk (by decide)]; exact b2⟩, b3, by rw [rIo n1]; exact b4, by rw [rIo n1]; exact b5, by rw [rIo n1]; exact b6⟩
  have o14 : ∀ (v : Int32) (t : zσ), frM tb t (sI t 1132 14 v) := fun v t => ⟨fun a c _ _ => rIo c, fun _ _ _ => rfl, rfl, fun k _ _ _ _ _ _ _ c => rIk c, fun k _ _ _ => by rw [rIo (fun e => (n_tb hb 0).1 e.symm)]⟩
  unfold f182
  rw [m_goes h.2.2, yb1_s, if_neg (by decide), hd]
  constructor
  · intro hlt
    rw [if_neg (fun e => by have := (nI_eq (a := dp) (b := 12) (by omega) (by decide)).mp e; omega)]
    refine ⟨?_, hBM _ t h.1, TM_fr h.2.1 (fun k hk => rIk (by omega)) (rIo (by decide)) rfl, by rw [rIk (by decide)]; exact h.2.2⟩
    show some (sI t 1132 14 (t.1 1132 14 + 1)) = _
    rw [hd, nI_1]
  · intro he
    subst he
    rw [if_pos rfl]
    obtain ⟨t2, e, h2, o⟩ := gm_wrong (n := n) (f := 3) hb (by decide) h
    refine ⟨sI t2 1132 14 (t2.1 1132 14 + 1), by rw [show f173 n 3 (t.1 1132 4) t = _ from e]; rfl, ⟨hBM _ t2 h2.1, ?_, ?_, h2.2.2.2⟩, frM_tr (frM_T hb o) (o14 _ t2)⟩
    · rw [rIk (by decide)]; exact h2.2.1
    · rw [rIk (by decide)]; exact h2.2.2.1
theorem gm_14 {q : Nat} {v : Int32} {t : zσ} (hb : zck 12 tb = true) : (GM U len tb q t → GM U len tb q (sI t 1132 14 v)) ∧ (∀ f x, FM U len tb f x t → FM U len tb f x (sI t 1132 14 v)) ∧ frM tb t (sI t 1132 14 v) := by
  have n1 : tb ≠ 1132 := fun e => (n_tb hb 0).1 e.symm
  have hBM : BM U len tb t → BM U len tb (sI t 1132 14 v) := by
    intro h
    obtain ⟨⟨a1, a2, a3⟩, ⟨p, hp, b2⟩, b3, b4, b5, b6⟩ := h
    exact ⟨⟨a1, by rw [rIk (by decide)]; exact a2, fun i hi => by rw [rIo (by decide)]; exact a3 i hi⟩, ⟨p, hp, by rw [rIk (by decide)]; exact b2⟩, b3, by rw [rIo n1]; exact b4, by rw [rIo n1]; exact b5, by rw [rIo n1]; exact b6⟩
  refine ⟨fun h => ⟨hBM h.1, TM_fr h.2.1 (fun k hk => rIk (by omega)) (rIo (by decide)) rfl, by rw [rIk (by decide)]; exact h.2.2⟩, fun f x h => ⟨hBM h.1, by rw [rIk (by decide)]; exact h.2.1, by rw [rIk (by decide)]; exact h.2.2.1, h.2.2.2⟩, ⟨fun a c _ _ => rIo c, fun _ _ _ => rfl, rfl, fun k _ _ _ _ _ _ _ c => rIk c, fun k _ _ _ => by rw [rIo n1]⟩⟩
/-- code -/
theorem gm_code {q cd : Nat} {c v : Int32} {t : zσ} (hb : zck 12 tb = true) (h : GM U len tb q t) (hc : t.1 tb 31 = nI cd) (hlt : cd < 400) : ∃ t2, f196 n c v t = some t2 ∧ GM U len tb q t2 ∧ frM tb t t2 ∧ t2.1 1132 = t.1 1132 ∧ t2.1 tb 27 = t.1 tb 27 ∧ t2.1 tb 34 = t.1 tb 34 ∧ t2.1 tb 31 = nI (cd + 1) := by
  have hin : zin? (nI cd) 900 = true := zin_nI (by omega) (by decide)
  have e1 : (sI t (tb + 27) (nx (nI cd)) c).1 tb 31 = nI cd := by rw [rIo (by omega), hc]
  have e2 : (sI (sI t (tb + 27) (nx (nI cd)) c) (tb + 28) (nx (nI cd)) v).1 tb 31 = nI cd := by rw [rIo (by omega), e1]
  have d1 : (sI t (tb + 27) (nx (nI cd)) c).2.2 1132 12 = some tb := h.1.2.2.1
  have d2 : (sI (sI t (tb + 27) (nx (nI cd)) c) (tb + 28) (nx (nI cd)) v).2.2 1132 12 = some tb := h.1.2.2.1
  have hsame : ∀ a, a ≠ tb + 27 → a ≠ tb + 28 → a ≠ tb → (sI (sI (sI t (tb + 27) (nx (nI cd)) c) (tb + 28) (nx (nI cd)) v) tb 31 (nI (cd + 1))).1 a = t.1 a := fun a h1 h2 h3 => by rw [rIo h3, rIo h2, rIo h1]
  have m10 : ∀ k, k ≠ 31 → (sI (sI (sI t (tb + 27) (nx (nI cd)) c) (tb + 28) (nx (nI cd)) v) tb 31 (nI (cd + 1))).1 tb k = t.1 tb k := fun k hk => by rw [rIk hk, rIo (by omega), rIo (by omega)]
  have m1 := hsame 1132 (n_tb hb 27).1 (n_tb hb 28).1 (n_tb hb 0).1
  have m2 := hsame 1133 (n_tb hb 27).2 (n_tb hb 28).2 (n_tb hb 0).2
  refine ⟨sI (sI (sI t (tb + 27) (nx (nI cd)) c) (tb + 28) (nx (nI cd)) v) tb 31 (nI (cd + 1)), ?_, ⟨?_, TM_fr h.2.1 (fun k _ => by rw [m1]) m2 rfl, by rw [m1]; exact h.2.2⟩, ⟨fun a _ h3 h4 => hsame a (by omega) (by omega) h3, fun _ _ _ => rfl, rfl, fun k _ _ _ _ _ _ _ _ => by rw [m1], fun k _ hk _ => m10 k hk⟩, m1, m10 27 (by decide), m10 34 (by decide), rIe⟩
  · unfold f196
    rw [m_goes h.2.2, yb1_s, if_neg (by decide), h.1.2.2.1, zrd_s hb, zrd_s hb, hc, if_pos hin]
    show zrd 12 ((sI t (tb + 27) (nx (nI cd)) c).2.2 1132 12) _ = _
    rw [d1, zrd_s hb, zrd_s hb, e1, if_pos hin]
    show zrd 12 ((sI (sI t (tb + 27) (nx (nI cd)) c) (tb + 28) (nx (nI cd)) v).2.2 1132 12) _ = _
    rw [d2, zrd_s hb]
    show some (sI (sI (sI t (tb + 27) (nx (nI cd)) c) (tb + 28) (nx (nI cd)) v) tb 31 ((sI (sI t (tb + 27) (nx (nI cd)) c) (tb + 28) (nx (nI cd)) v).1 tb 31 + 1)) = _
    rw [e2, nI_1]
  · obtain ⟨⟨a1, a2, a3⟩, ⟨p, hp, b2⟩, b3, ⟨c4, h4, b4⟩, -, ⟨c6, h6, b6⟩⟩ := h.1
    exact ⟨⟨a1, by rw [m1]; exact a2, fun i hi => by rw [m2]; exact a3 i hi⟩, ⟨p, hp, by rw [m1]; exact b2⟩, b3, ⟨c4, h4, by rw [m10 27 (by decide)]; exact b4⟩, ⟨cd + 1, by omega, rIe⟩, ⟨c6, h6, by rw [m10 34 (by decide)]; exact b6⟩⟩
theorem fm_code {f x : Nat} {c v : Int32} {t : zσ} (h : FM U len tb f x t) : f196 n c v t = some t := by
  unfold f196
  rw [m_goes0 (fm_ne h)]
  rfl
/-- use -/
theorem gm_use {q us : Nat} {x : Int32} {t : zσ} (hn : 5000 ≤ n) (hb : zck 12 tb = true) (h : GM U len tb q t) (hu : t.1 tb 34 = nI us) (hus : us < 1399) : (tkKind U len q = 1 → ∃ t2, f189 n x t = some (nI us, t2) ∧ GM U len tb (tkNx U len q) t2 ∧ frM tb t t2 ∧ t2.1 1132 14 = t.1 1132 14 ∧ t2.1 tb 27 = t.1 tb 27 ∧ t2.1 tb 31 = t.1 tb 31 ∧ t2.1 tb 34 = nI (us + 1)) ∧ (¬ tkKind U len q = 1 → ∃ t2, f189 n x t = some (0, t2) ∧ FM U len tb (zft U len q 2) q t2 ∧ frT t t2) := by
  unfold f189
  rw [m_goes h.2.2, yb1_s, if_neg (by decide), tm_name hn h.2.1, yb1_s]
  constructor
  · intro e
    rw [zone_1 e, if_neg (by decide), h.1.2.2.1, zrd_s hb]
    have hin : zin? (nI us) 1400 = true := zin_nI (by omega) (by decide)
    -- the five rows of a use
    have hW : ∃ u : zσ, u = sI (sI (sI (sI (sJ t (tb + 29) (nx (nI us)) (t.2.1 1132 6)) (tb + 30) (nx (nI us)) (t.1 1132 4)) (tb + 31) (nx (nI us)) x) (tb + 32) (nx (nI us)) (t.1 1132 15)) (tb + 35) (nx (nI us)) (-1) := ⟨_, rfl⟩
    obtain ⟨u, eu⟩ := hW
    have hs : ∀ a, a ≠ tb + 30 → a ≠ tb + 31 → a ≠ tb + 32 → a ≠ tb + 35 → u.1 a = t.1 a := fun a h1 h2 h3 h4 => by rw [eu, rIo h4, rIo h3, rIo h2, rIo h1, rJ1]
    have u34 : u.1 tb = t.1 tb := hs tb (by omega) (by omega) (by omega) (by omega)
    have m1 : u.1 1132 = t.1 1132 := hs 1132 (n_tb hb 30).1 (n_tb hb 31).1 (n_tb hb 32).1 (n_tb hb 35).1
    have m2 : u.1 1133 = t.1 1133 := hs 1133 (n_tb hb 30).2 (n_tb hb 31).2 (n_tb hb 32).2 (n_tb hb 35).2
    have mJ : ∀ a, a ≠ tb + 29 → u.2.1 a = t.2.1 a := fun a ha => by rw [eu]; exact rJo ha
    have mR : u.2.2 = t.2.2 := by rw [eu]; rfl
    have hGu : GM U len tb q u := by
      obtain ⟨⟨a1, a2, a3⟩, ⟨p, hp, b2⟩, b3, b4, b5, b6⟩ := h.1
      exact ⟨⟨⟨a1, by rw [m1]; exact a2, fun i hi => by rw [m2]; exact a3 i hi⟩, ⟨p, hp, by rw [m1]; exact b2⟩, by rw [mR]; exact b3, by rw [u34]; exact b4, by rw [u34]; exact b5, by rw [u34]; exact b6⟩, TM_fr h.2.1 (fun k _ => by rw [m1]) m2 (by rw [mJ 1132 (n_tb hb 29).1]), by rw [m1]; exact h.2.2⟩
    have hGv : GM U len tb q (sI u tb 34 (nI (us + 1))) := ⟨BM_tb hb hGu.1 (Or.inl ⟨rfl, by omega⟩), MG_a (n_tb hb 0).1 (n_tb hb 0).2 hGu.2⟩
    obtain ⟨t2, e2, h2, o⟩ := gm_next hn hb hGv
    have t34 : t2.1 tb = (sI u tb 34 (nI (us + 1))).1 tb := o.1 tb (fun e => (n_tb hb 0).1 e.symm)
    refine ⟨t2, ?_, h2, ⟨fun a c d f => ?_, fun a c d => ?_, ?_, fun k c1 c2 c3 c4 c5 c6 c7 _ => ?_, fun k _ _ hk => ?_⟩, ?_, ?_, ?_, ?_⟩
    · rw [hu, if_pos hin]
      have g1 : (sJ t (tb + 29) (nx (nI us)) (t.2.1 1132 6)).1 tb 34 = nI us := hu
      show (if zin? ((sJ t (tb + 29) (nx (nI us)) (t.2.1 1132 6)).1 tb 34) 1400 = true then _ else none) = _
      rw [g1, if_pos hin]
      show (if zin? ((sI (sJ t (tb + 29) (nx (nI us)) (t.2.1 1132 6)) (tb + 30) (nx (nI us)) (t.1 1132 4)).1 tb 34) 1400 = true then _ else none) = _
      have g2 : (sI (sJ t (tb + 29) (nx (nI us)) (t.2.1 1132 6)) (tb + 30) (nx (nI us)) (t.1 1132 4)).1 tb 34 = nI us := by rw [rIo (by omega)]; exact hu
      rw [g2, if_pos hin]
      show (if zin? ((sI (sI (sJ t (tb + 29) (nx (nI us)) (t.2.1 1132 6)) (tb + 30) (nx (nI us)) (t.1 1132 4)) (tb + 31) (nx (nI us)) x).1 tb 34) 1400 = true then _ else none) = _
      have g3 : (sI (sI (sJ t (tb + 29) (nx (nI us)) (t.2.1 1132 6)) (tb + 30) (nx (nI us)) (t.1 1132 4)) (tb + 31) (nx (nI us)) x).1 tb 34 = nI us := by rw [rIo (by omega)]; exact g2
      have g4 : (sI (sI (sJ t (tb + 29) (nx (nI us)) (t.2.1 1132 6)) (tb + 30) (nx (nI us)) (t.1 1132 4)) (tb + 31) (nx (nI us)) x).1 1132 15 = t.1 1132 15 := by rw [rIo (n_tb hb 31).1, rIo (n_tb hb 30).1]; rfl
      rw [g3, if_pos hin, g4]
      show (if zin? ((sI (sI (sI (sJ t (tb + 29) (nx (nI us)) (t.2.1 1132 6)) (tb + 30) (nx (nI us)) (t.1 1132 4)) (tb + 31) (nx (nI us)) x) (tb + 32) (nx (nI us)) (t.1 1132 15)).1 tb 34) 1400 = true then _ else none) = _
      have g5 : (sI (sI (sI (sJ t (tb + 29) (nx (nI us)) (t.2.1 1132 6)) (tb + 30) (nx (nI us)) (t.1 1132 4)) (tb + 31) (nx (nI us)) x) (tb + 32) (nx (nI us)) (t.1 1132 15)).1 tb 34 = nI us := by rw [rIo (by omega)]; exact g3
      rw [g5, if_pos hin, ← eu]
      show yb0 (f164 n (sI u tb 34 (u.1 tb 34 + 1))) _ = _
      rw [u34, hu, nI_1, e2]
      show some (t2.1 tb 34 - 1, t2) = _
      rw [t34, rIe, nI_pred]
    · rw [o.1 a c, rIo d, hs a (by omega) (by omega) (by omega) (by omega)]
    · rw [o.2.1 a c]; exact mJ a d
    · rw [o.2.2.1]; exact mR
    · rw [o.2.2.2 k c1 c2 c3 c4 c5 c6 c7, rIo (n_tb hb 0).1, m1]
    · rw [t34, rIk hk, u34]
    · rw [o.2.2.2 14 (by decide) (by decide) (by decide) (by decide) (by decide) (by decide) (by decide), rIo (n_tb hb 0).1, m1]
    · rw [t34, rIk (by decide), u34]
    · rw [t34, rIk (by decide), u34]
    · rw [t34, rIe]
  · intro e
    rw [zone_0 e, if_pos rfl]
    obtain ⟨t2, e2, h2, o⟩ := gm_cant (n := n) hb h
    exact ⟨t2, by rw [e2]; rfl, h2, o⟩
theorem fm_use {f x : Nat} {y : Int32} {t : zσ} (h : FM U len tb f x t) : f189 n y t = some (0, t) := by
  unfold f189
  rw [m_goes0 (fm_ne h)]
  rfl
end ZEM
