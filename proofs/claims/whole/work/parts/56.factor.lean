/-! factors in lockstep, first pass -/
theorem zo_size : zofv 45 = zWd 14 ∧ zofv 46 = zWd 16 ∧ zofv 47 = zWd 15 := by decide +kernel
section ZFA
variable {U : Nat → Nat} {len n b tb ub D : Nat}
theorem fm_deep {f x : Nat} {t : zσ} (htb : zck 12 tb = true) (h : FM U len tb f x t) : ∃ t2, f182 n t = some t2 ∧ FM U len tb f x t2 ∧ frM tb t t2 := by
  refine ⟨sI t 1132 14 (t.1 1132 14 + 1), ?_, (gm_14 (q := 0) htb).2.1 f x h, (gm_14 (U := U) (len := len) (q := 0) htb).2.2⟩
  unfold f182
  rw [m_goes0 (fm_ne h)]
  rfl
/-- the use of a name and its meaning -/
theorem er_use {q dp nd cd us : Nat} {x y : Int32} {s t : zσ} (hn : 5000 ≤ n) (hb : zck 9 b = true) (htb : zck 12 tb = true) (hub : ub ≤ 900) (h : ER U len b tb ub q dp nd cd us s t) (hlt : us < nd + ub) : (tkKind U len q = 1 → ∃ s2 t2, f57 n x s = some (0, s2) ∧ f189 n y t = some (nI us, t2) ∧ frE b s s2 ∧ frM tb t t2 ∧ ER U len b tb ub (tkNx U len q) dp nd cd (us + 1) s2 t2) ∧ (¬ tkKind U len q = 1 → ∃ s2 t2, f57 n x s = some (-1, s2) ∧ f189 n y t = some (0, t2) ∧ frE b s s2 ∧ frM tb t t2 ∧ EF U len b tb s2 t2) := by
  obtain ⟨hC, hM, h7, h9, h14, h12, c10, m27, h400, c11, m31, hcn, m34, hus⟩ := h
  have n19' : b + 19 ≠ 1001 := by rcases ckb hb with rfl | rfl <;> decide
  constructor
  · intro e
    obtain ⟨s2, e1, g1, o1⟩ := (gc_mean (x := x) hn hb hC h7).1 e
    obtain ⟨t2, e2, g2, o2, x14, x27, x31, x34⟩ := (gm_use (x := y) hn htb hM m34 (by omega)).1 e
    refine ⟨s2, t2, e1, e2, frE_o hb o1, o2, g1, g2, ?_, ?_, ?_, h12, ?_, ?_, h400, ?_, ?_, hcn, x34, by omega⟩
    · rw [(o1.1 1004 (by decide)).1]; exact h7
    · rw [(o1.1 1004 (by decide)).1]; exact h9
    · rw [x14]; exact h14
    · rw [(o1.1 (b + 19) n19').1]; exact c10
    · rw [x27]; exact m27
    · rw [(o1.1 (b + 19) n19').1]; exact c11
    · rw [x31]; exact m31
  · intro e
    obtain ⟨s2, e1, g1, o1⟩ := (gc_mean (x := x) hn hb hC h7).2 e
    obtain ⟨t2, e2, g2, o2⟩ := (gm_use (x := y) hn htb hM m34 (by omega)).2 e
    exact ⟨s2, t2, e1, e2, frE_R hb o1, frM_T htb o2, _, _, g1, g2⟩
/-- a step of both that leaves all but the token alone -/
theorem er_tok {q q2 dp nd cd us : Nat} {s t s2 t2 : zσ} (hb : zck 9 b = true) (htb : zck 12 tb = true) (h : ER U len b tb ub q dp nd cd us s t) (g1 : GC U len b q2 s2) (o1 : zof s s2 1001) (g2 : GM U len tb q2 t2) (o2 : frT t t2) : ER U len b tb ub q2 dp nd cd us s2 t2 := by
  obtain ⟨hC, hM, h7, h9, h14, h12, c10, m27, h400, c11, m31, hcn, m34, hus⟩ := h
  have n19' : b + 19 ≠ 1001 := by rcases ckb hb with rfl | rfl <;> decide
  have ntb : tb ≠ 1132 := fun e => (n_tb htb 0).1 e.symm
  refine ⟨g1, g2, ?_, ?_, ?_, h12, ?_, ?_, h400, ?_, ?_, hcn, ?_, hus⟩
  · rw [(o1.1 1004 (by decide)).1]; exact h7
  · rw [(o1.1 1004 (by decide)).1]; exact h9
  · rw [o2.2.2.2 14 (by decide) (by decide) (by decide) (by decide) (by decide) (by decide) (by decide)]; exact h14
  · rw [(o1.1 (b + 19) n19').1]; exact c10
  · rw [o2.1 tb ntb]; exact m27
  · rw [(o1.1 (b + 19) n19').1]; exact c11
  · rw [o2.1 tb ntb]; exact m31
  · rw [o2.1 tb ntb]; exact m34
theorem gc_want {q : Nat} {c : Int32} {s : zσ} (hn : 5000 ≤ n) (hb : zck 9 b = true) (h : GC U len b q s) : (tkKind U len q = c → ∃ s2, f37 n c s = some s2 ∧ GC U len b (tkNx U len q) s2 ∧ zof s s2 1001) ∧ (¬ tkKind U len q = c → ∃ s2, f37 n c s = some s2 ∧ FC U len b (zft U len q 2) q s2 ∧ frR s s2) := by
  unfold f37
  rw [CG_k h.2]
  constructor
  · intro e
    rw [if_pos e]
    obtain ⟨s2, e2, h2, o⟩ := gc_adv hn hb h
    exact ⟨s2, by rw [e2]; rfl, h2, o⟩
  · intro e
    rw [if_neg e]
    obtain ⟨s2, e2, h2, o⟩ := gc_ref (n := n) (f := 2) hb h
    exact ⟨s2, by rw [show f32 n 2 s = _ from e2]; rfl, h2, o⟩
theorem er_want {q dp nd cd us c : Nat} {s t : zσ} (hn : 5000 ≤ n) (hb : zck 9 b = true) (htb : zck 12 tb = true) (hc : zsg c = true) (hc2 : c < 126) (h : ER U len b tb ub q dp nd cd us s t) : ∃ s2 t2, f37 n (nI c) s = some s2 ∧ f179 n (nI c) t = some t2 ∧ frE b s s2 ∧ frM tb t t2 ∧ ((q < len ∧ ER U len b tb ub (tkNx U len q) dp nd cd us s2 t2) ∨ EF U len b tb s2 t2) := by
  obtain ⟨hq, hU, -⟩ := ER_q h
  by_cases e : tkKind U len q = nI c
  · obtain ⟨s2, e1, g1, o1⟩ := (gc_want hn hb h.1).1 e
    obtain ⟨t2, e2, g2, o2⟩ := (gm_want hn htb hc hc2 h.2.1).1 e
    exact ⟨s2, t2, e1, e2, frE_o hb o1, frM_T htb o2, Or.inl ⟨((tk_byte hU hq hc hc2).mp e).1, er_tok hb htb h g1 o1 g2 o2⟩⟩
  · obtain ⟨s2, e1, g1, o1⟩ := (gc_want hn hb h.1).2 e
    obtain ⟨t2, e2, g2, o2⟩ := (gm_want hn htb hc hc2 h.2.1).2 e
    exact ⟨s2, t2, e1, e2, frE_R hb o1, frM_T htb o2, Or.inr ⟨_, _, g1, g2⟩⟩
theorem ef_want {c : Nat} {s t : zσ} (hc : ¬ nI c = 4) (h : EF U len b tb s t) : f37 n (nI c) s = some s ∧ f179 n (nI c) t = some t := by
  obtain ⟨f, x, h1, h2⟩ := h
  exact ⟨c_want0 hc (fc_4 h1), fm_want h2⟩
/-- deeper and the next token -/
theorem er_open {q dp nd cd us c : Nat} {s t : zσ} (hn : 5000 ≤ n) (hb : zck 9 b = true) (htb : zck 12 tb = true) (hk : tkKind U len q = nI c) (hk0 : ¬ tkKind U len q = 0) (h : ER U len b tb ub q dp nd cd us s t) : (dp < 12 → ∃ s1 t1 t2, f41 n (nI c) s = some (1, s1) ∧ f182 n t = some t1 ∧ t1.1 1132 9 = 0 ∧ f164 n t1 = some t2 ∧ frE b s s1 ∧ frM tb t t2 ∧ ER U len b tb ub (tkNx U len q) (dp + 1) nd cd us s1 t2) ∧ (dp = 12 → ∃ s1 t1, f41 n (nI c) s = some (0, s1) ∧ f182 n t = some t1 ∧ ¬ t1.1 1132 9 = 0 ∧ frE b s s1 ∧ frM tb t t1 ∧ EF U len b tb s1 t1) := by
  obtain ⟨hC, hM, h7, h9, h14, h12, c10, m27, h400, c11, m31, hcn, m34, hus⟩ := h
  have n19' : b + 19 ≠ 1001 := by rcases ckb hb with rfl | rfl <;> decide
  have n19 : b + 19 ≠ 1004 := by rcases ckb hb with rfl | rfl <;> decide
  have ntb : tb ≠ 1132 := fun e => (n_tb htb 0).1 e.symm
  constructor
  · intro hlt
    obtain ⟨s1, e1, g1, o1⟩ := (gc_deep hn hb hC h9 h12 hk).1 hlt
    obtain ⟨e2, g2⟩ := (gm_deep (n := n) htb hM h14 h12).1 hlt
    obtain ⟨t2, e3, g3, o3⟩ := gm_next hn htb g2
    refine ⟨s1, _, t2, e1, e2, g2.2.2, e3, frE_tr (frE_9 hb) (frE_o hb o1), frM_tr (gm_14 (U := U) (len := len) (q := 0) htb).2.2 (frM_T htb o3), g1, g3, ?_, ?_, ?_, by omega, ?_, ?_, h400, ?_, ?_, hcn, ?_, hus⟩
    · rw [(o1.1 1004 (by decide)).1, rIk (by decide)]; exact h7
    · rw [(o1.1 1004 (by decide)).1, rIe]
    · rw [o3.2.2.2 14 (by decide) (by decide) (by decide) (by decide) (by decide) (by decide) (by decide), rIe]
    · rw [(o1.1 (b + 19) n19').1, rIo n19]; exact c10
    · rw [o3.1 tb ntb, rIo ntb]; exact m27
    · rw [(o1.1 (b + 19) n19').1, rIo n19]; exact c11
    · rw [o3.1 tb ntb, rIo ntb]; exact m31
    · rw [o3.1 tb ntb, rIo ntb]; exact m34
  · intro he
    obtain ⟨s1, e1, g1, o1⟩ := (gc_deep hn hb hC h9 h12 hk).2 he
    obtain ⟨t1, e2, g2, o2⟩ := (gm_deep (n := n) htb hM h14 h12).2 he
    rw [zft_3 hk0] at g1
    exact ⟨s1, t1, e1, e2, fm_ne g2, frE_R hb o1, o2, 3, q, g1, g2⟩
/-- out of a level again -/
theorem er_close {q dp nd cd us : Nat} {s t : zσ} (hb : zck 9 b = true) (htb : zck 12 tb = true) (h : ER U len b tb ub q (dp + 1) nd cd us s t) : ER U len b tb ub q dp nd cd us (sI s 1004 9 (s.1 1004 9 - 1)) (sI t 1132 14 (t.1 1132 14 - 1)) := by
  obtain ⟨hC, hM, h7, h9, h14, h12, c10, m27, h400, c11, m31, hcn, m34, hus⟩ := h
  have n19 : b + 19 ≠ 1004 := by rcases ckb hb with rfl | rfl <;> decide
  have ntb : tb ≠ 1132 := fun e => (n_tb htb 0).1 e.symm
  refine ⟨GC_9 hb hC, (gm_14 htb).1 hM, by rw [rIk (by decide)]; exact h7, by rw [rIe, h9, nI_pred], by rw [rIe, h14, nI_pred], by omega, by rw [rIo n19]; exact c10, by rw [rIo ntb]; exact m27, h400, by rw [rIo n19]; exact c11, by rw [rIo ntb]; exact m31, hcn, by rw [rIo ntb]; exact m34, hus⟩
theorem ef_close {v v2 : Int32} {s t : zσ} (hb : zck 9 b = true) (htb : zck 12 tb = true) (h : EF U len b tb s t) : EF U len b tb (sI s 1004 9 v) (sI t 1132 14 v2) := by
  obtain ⟨f, x, h1, h2⟩ := h
  exact ⟨f, x, FC_9 hb h1, (gm_14 (q := 0) htb).2.1 f x h2⟩
/-- an expression in brackets, behind the opening one: the closing one is wanted, then the level is left -/
theorem er_in {g g2 : zσ → Option zσ} (hn : 5000 ≤ n) (hb : zck 9 b = true) (htb : zck 12 tb = true) {c : Nat} (hc : zsg c = true) (hc2 : c < 126) (hB : EB U len b tb ub D g g2) {q dp nd cd us : Nat} {s t : zσ} (hD : D ≤ dp + 1) (h : ER U len b tb ub q (dp + 1) nd cd us s t) : ∃ s1 t1 s2 t2, g s = some s1 ∧ f37 n (nI c) s1 = some s2 ∧ g2 t = some t1 ∧ f179 n (nI c) t1 = some t2 ∧ EO U len b tb ub q dp nd cd us s t (sI s2 1004 9 (s2.1 1004 9 - 1)) (sI t2 1132 14 (t2.1 1132 14 - 1)) := by
  have hc4 : ¬ nI c = 4 := fun e => by
    have h1 := zsg_b hc (by omega)
    have := (nIe (u := c) (k := 4) (by omega) (by decide)).mp e
    omega
  have f14 : ∀ (v : Int32) (t : zσ), frM tb t (sI t 1132 14 v) := fun v t => (gm_14 (U := U) (len := len) (q := 0) htb).2.2
  obtain ⟨s1, t1, e1, e2, o1, o2, hcs⟩ := hB.1 _ _ _ _ _ _ _ hD h
  rcases hcs with ⟨q2, nd2, cd2, us2, a1, a2, a3, a4, hER⟩ | hE
  · obtain ⟨s2, t2, e3, e4, o3, o4, hw⟩ := er_want hn hb htb hc hc2 hER
    refine ⟨s1, t1, s2, t2, e1, e3, e2, e4, frE_tr (frE_tr o1 o3) (frE_9 hb), frM_tr (frM_tr o2 o4) (f14 _ _), ?_⟩
    rcases hw with ⟨hql, hER2⟩ | hE
    · have hgt := tkNx_gt (U := U) hql
      exact Or.inl ⟨_, nd2, cd2, us2, by omega, by omega, by omega, by omega, er_close hb htb hER2⟩
    · exact Or.inr (ef_close hb htb hE)
  · obtain ⟨w1, w2⟩ := ef_want (n := n) hc4 hE
    exact ⟨s1, t1, s1, t1, e1, w1, e2, w2, frE_tr o1 (frE_9 hb), frM_tr o2 (f14 _ _), Or.inr (ef_close hb htb hE)⟩
end ZFA
