/-! expressions in lockstep, first pass: terms, sums, comparisons over factors -/
/-- class and reference stand at the same token, with the same depth, nodes, codes -/
def ER (U : Nat → Nat) (len b tb ub q dp nd cd us : Nat) (s t : zσ) : Prop := GC U len b q s ∧ GM U len tb q t ∧ s.1 1004 7 = 0 ∧ s.1 1004 9 = nI dp ∧ t.1 1132 14 = nI dp ∧ dp ≤ 12 ∧ s.1 (b + 19) 10 = nI nd ∧ t.1 tb 27 = nI nd ∧ nd ≤ 400 ∧ s.1 (b + 19) 11 = nI cd ∧ t.1 tb 31 = nI cd ∧ cd ≤ nd ∧ t.1 tb 34 = nI us ∧ us ≤ nd + ub
/-- both have one fault at one place -/
def EF (U : Nat → Nat) (len b tb : Nat) (s t : zσ) : Prop := ∃ f x, FC U len b f x s ∧ FM U len tb f x t
/-- what comes of a pair: both go on behind at least k tokens' places, or both have the fault -/
def EO (U : Nat → Nat) (len b tb ub q dp nd cd us : Nat) (s t s2 t2 : zσ) : Prop := frE b s s2 ∧ frM tb t t2 ∧ ((∃ q2 nd2 cd2 us2, q < q2 ∧ nd ≤ nd2 ∧ cd2 + nd ≤ nd2 + cd ∧ us2 + nd ≤ nd2 + us ∧ ER U len b tb ub q2 dp nd2 cd2 us2 s2 t2) ∨ EF U len b tb s2 t2)
/-- the same, but nothing need have been passed -/
def EO0 (U : Nat → Nat) (len b tb ub q dp nd cd us : Nat) (s t s2 t2 : zσ) : Prop := frE b s s2 ∧ frM tb t t2 ∧ ((∃ q2 nd2 cd2 us2, q ≤ q2 ∧ nd ≤ nd2 ∧ cd2 + nd ≤ nd2 + cd ∧ us2 + nd ≤ nd2 + us ∧ ER U len b tb ub q2 dp nd2 cd2 us2 s2 t2) ∨ EF U len b tb s2 t2)
/-- a pair of functions at the depths from D on; behind a fault each keeps it -/
def EB (U : Nat → Nat) (len b tb ub D : Nat) (g g2 : zσ → Option zσ) : Prop := (∀ q dp nd cd us s t, D ≤ dp → ER U len b tb ub q dp nd cd us s t → ∃ s2 t2, g s = some s2 ∧ g2 t = some t2 ∧ EO U len b tb ub q dp nd cd us s t s2 t2) ∧ (∀ f x s, FC U len b f x s → ∃ s2, g s = some s2 ∧ FC U len b f x s2 ∧ frE b s s2) ∧ (∀ f x t, FM U len tb f x t → ∃ t2, g2 t = some t2 ∧ FM U len tb f x t2 ∧ frM tb t t2)
section ZEX
variable {U : Nat → Nat} {len n b tb ub D : Nat}
theorem ER_q {q dp nd cd us : Nat} {s t : zσ} (h : ER U len b tb ub q dp nd cd us s t) : q ≤ len ∧ zby U len ∧ len ≤ 4000 := ⟨CG_le h.1.2, CG_by h.1.2, h.1.1.1.1⟩
theorem ER_k {q dp nd cd us : Nat} {s t : zσ} (h : ER U len b tb ub q dp nd cd us s t) : s.1 1001 4 = tkKind U len q := CG_k h.1.2
theorem ER_5 {q dp nd cd us : Nat} {s t : zσ} (h : ER U len b tb ub q dp nd cd us s t) : s.2.2 1004 5 = some (b + 19) := h.1.1.2.2.2.2.1
theorem FC_5 {f x : Nat} {s : zσ} (h : FC U len b f x s) : s.2.2 1004 5 = some (b + 19) := h.1.2.2.2.2.1
theorem zft_3 {q f : Nat} (h : ¬ tkKind U len q = 0) : zft U len q f = f := if_neg h
/-- node, and the next token -/
theorem er_node {q dp nd cd us : Nat} {s t : zσ} (hn : 5000 ≤ n) (hb : zck 9 b = true) (htb : zck 12 tb = true) (h : ER U len b tb ub q dp nd cd us s t) (hk : ¬ tkKind U len q = 0) : ∃ s1 t1 t2, f58 n s = some s1 ∧ f195 n t = some t1 ∧ f164 n t1 = some t2 ∧ frE b s s1 ∧ frM tb t t2 ∧ ((nd < 400 ∧ ER U len b tb ub (tkNx U len q) dp (nd + 1) cd us s1 t2) ∨ EF U len b tb s1 t2) := by
  obtain ⟨hC, hM, h7, h9, h14, h12, c10, m27, h400, c11, m31, hcn, m34, hus⟩ := h
  have n19 : (1004 : Nat) ≠ b + 19 := by rcases ckb hb with rfl | rfl <;> decide
  have n19' : b + 19 ≠ 1001 := by rcases ckb hb with rfl | rfl <;> decide
  by_cases hlt : nd < 400
  · obtain ⟨s1, e1, g1, o1⟩ := (gc_node hn hb hC c10 h400).1 hlt
    obtain ⟨e2, g2⟩ := (gm_node (n := n) htb hM m27 h400).1 hlt
    obtain ⟨t2, e3, g3, o3⟩ := gm_next hn htb g2
    have ntb : tb ≠ 1132 := fun e => (n_tb htb 0).1 e.symm
    refine ⟨s1, _, t2, e1, e2, e3, frE_tr (frE_19 (Or.inl rfl) hb) (frE_o hb o1), frM_tr (frM_tb (Or.inl rfl) htb) (frM_T htb o3), Or.inl ⟨hlt, g1, g3, ?_, ?_, ?_, h12, ?_, ?_, by omega, ?_, ?_, by omega, ?_, by omega⟩⟩
    · rw [(o1.1 1004 (by decide)).1, rIo n19]; exact h7
    · rw [(o1.1 1004 (by decide)).1, rIo n19]; exact h9
    · rw [o3.2.2.2 14 (by decide) (by decide) (by decide) (by decide) (by decide) (by decide) (by decide), rIo (n_tb htb 0).1]; exact h14
    · rw [(o1.1 (b + 19) n19').1, rIe]
    · rw [o3.1 tb ntb, rIe]
    · rw [(o1.1 (b + 19) n19').1, rIk (by decide)]; exact c11
    · rw [o3.1 tb ntb, rIk (by decide)]; exact m31
    · rw [o3.1 tb ntb, rIk (by decide)]; exact m34
  · have he : nd = 400 := by omega
    obtain ⟨s1, e1, g1, o1⟩ := (gc_node hn hb hC c10 h400).2 he
    obtain ⟨t1, e2, g2, o2⟩ := (gm_node (n := n) htb hM m27 h400).2 he
    obtain ⟨t2, e3, g3, o3⟩ := fm_next hn htb g2
    rw [zft_3 hk] at g1
    exact ⟨s1, t1, t2, e1, e2, e3, frE_R hb o1, frM_T htb (frT_tr o2 o3), Or.inr ⟨3, q, g1, g3⟩⟩
/-- emit and code -/
theorem er_emit {q dp nd cd us : Nat} {c d c2 d2 : Int32} {s t : zσ} (hb : zck 9 b = true) (htb : zck 12 tb = true) (h : ER U len b tb ub q dp nd cd us s t) (hlt : cd < nd) : ∃ s2 t2, f54 n (b + 19) c d s = some s2 ∧ f196 n c2 d2 t = some t2 ∧ frE b s s2 ∧ frM tb t t2 ∧ ER U len b tb ub q dp nd (cd + 1) us s2 t2 := by
  obtain ⟨hC, hM, h7, h9, h14, h12, c10, m27, h400, c11, m31, hcn, m34, hus⟩ := h
  obtain ⟨s2, e1, g1, o1, r4, r10, r11⟩ := gc_emit (n := n) (c := c) (d := d) hb hC
  obtain ⟨t2, e2, g2, o2, x1, x27, x34, x31⟩ := gm_code (n := n) (c := c2) (v := d2) htb hM m31 (by omega)
  exact ⟨s2, t2, e1, e2, o1, o2, g1, g2, by rw [r4]; exact h7, by rw [r4]; exact h9, by rw [x1]; exact h14, h12, by rw [r10]; exact c10, by rw [x27]; exact m27, h400, r11 cd c11 (by omega), x31, by omega, by rw [x34]; exact m34, hus⟩
theorem ef_emit {c d c2 d2 : Int32} {s t : zσ} (hb : zck 9 b = true) (h : EF U len b tb s t) : ∃ s2, f54 n (b + 19) c d s = some s2 ∧ f196 n c2 d2 t = some t ∧ frE b s s2 ∧ EF U len b tb s2 t := by
  obtain ⟨f, x, h1, h2⟩ := h
  obtain ⟨s2, e1, g1, o1⟩ := fc_emit (n := n) (c := c) (d := d) hb h1
  exact ⟨s2, e1, fm_code h2, o1, f, x, g1, h2⟩
theorem fc_k {f x : Nat} {c : Int32} {s : zσ} (h : FC U len b f x s) (hc : ¬ c = 4) : ¬ s.1 1001 4 = c := by rw [fc_4 h]; exact fun e => hc e.symm
/-! term -/
theorem term_fc {g : zσ → Option zσ} {f x j : Nat} {i : Int32} {s : zσ} (h : FC U len b f x s) : f51_6 n g (j + 1) i s = some s := by
  rw [f51_6, if_neg (fc_k h (by decide)), if_neg (fc_k h (by decide)), if_neg (fc_k h (by decide))]
  split <;> rfl
theorem term_fm {g : zσ → Option zσ} {f x j : Nat} {t : zσ} (h : FM U len tb f x t) : f193_4 n g (j + 1) t = some t := by
  rw [f193_4, m_goes0 (fm_ne h)]
  rfl
theorem term_ch {g : zσ → Option zσ} {j i q dp nd cd us : Nat} {s t : zσ} (h : ER U len b tb ub q dp nd cd us s t) : ((tkKind U len q = 42 ∨ tkKind U len q = 47 ∨ tkKind U len q = 37) → i < 4000 → f51_6 n g (j + 1) (nI i) s = f51_49 n g (f51_6 n g j) (nI i) s) ∧ (¬ (tkKind U len q = 42 ∨ tkKind U len q = 47 ∨ tkKind U len q = 37) → f51_6 n g (j + 1) (nI i) s = some s) := by
  rw [f51_6, ER_k h]
  constructor
  · intro hk hi
    rw [if_pos (show nI i < 4000 from nI_lt (b := 4000) hi (by decide))]
    rcases hk with e | e | e
    · rw [if_pos e]
    · rw [if_neg (show ¬ tkKind U len q = 42 by rw [e]; decide), if_pos e]
    · rw [if_neg (show ¬ tkKind U len q = 42 by rw [e]; decide), if_neg (show ¬ tkKind U len q = 47 by rw [e]; decide), if_pos e]
  · intro hk
    rw [if_neg (fun e => hk (Or.inl e)), if_neg (fun e => hk (Or.inr (Or.inl e))), if_neg (fun e => hk (Or.inr (Or.inr e)))]
    split <;> rfl
theorem term_mh {g : zσ → Option zσ} {j q dp nd cd us : Nat} {s t : zσ} (h : ER U len b tb ub q dp nd cd us s t) : ((tkKind U len q = 42 ∨ tkKind U len q = 47 ∨ tkKind U len q = 37) → f193_4 n g (j + 1) t = f193_38 n g (f193_4 n g j) t) ∧ (¬ (tkKind U len q = 42 ∨ tkKind U len q = 47 ∨ tkKind U len q = 37) → f193_4 n g (j + 1) t = some t) := by
  have hM := h.2.1.2
  have g42 : f177 n 42 t = some (zone (decide (tkKind U len q = 42)), t) := tm_sign (c := 42) hM.1 (by decide) (by decide)
  have g47 : f177 n 47 t = some (zone (decide (tkKind U len q = 47)), t) := tm_sign (c := 47) hM.1 (by decide) (by decide)
  have g37 : f177 n 37 t = some (zone (decide (tkKind U len q = 37)), t) := tm_sign (c := 37) hM.1 (by decide) (by decide)
  rw [f193_4, m_goes hM.2, yb1_s, if_neg (by decide)]
  constructor
  · intro hk
    rcases hk with e | e | e
    · rw [g42, yb1_s, zone_1 e, if_neg (by decide)]
    · rw [g42, yb1_s, zone_0 (show ¬ tkKind U len q = 42 by rw [e]; decide), if_pos rfl, g47, yb1_s, zone_1 e, if_neg (by decide)]
    · rw [g42, yb1_s, zone_0 (show ¬ tkKind U len q = 42 by rw [e]; decide), if_pos rfl, g47, yb1_s, zone_0 (show ¬ tkKind U len q = 47 by rw [e]; decide), if_pos rfl, g37, yb1_s, zone_1 e, if_neg (by decide)]
  · intro hk
    rw [g42, yb1_s, zone_0 (fun e => hk (Or.inl e)), if_pos rfl, g47, yb1_s, zone_0 (fun e => hk (Or.inr (Or.inl e))), if_pos rfl, g37, yb1_s, zone_0 (fun e => hk (Or.inr (Or.inr e))), if_pos rfl]
/-- one more, behind a sign; then what goes on, for any loops r, r2 -/
theorem term_more {g g2 : zσ → Option zσ} (hn : 5000 ≤ n) (hb : zck 9 b = true) (htb : zck 12 tb = true) (hB : EB U len b tb ub D (g) (g2)) {q dp nd cd us : Nat} {i : Int32} {s t : zσ} (hD : D ≤ dp) (h : ER U len b tb ub q dp nd cd us s t) (hk : ¬ tkKind U len q = 0) (hql : q < len) (r : Int32 → zσ → Option zσ) (r2 : zσ → Option zσ) : ∃ s2 t2, f51_49 n g r i s = r (i + 1) s2 ∧ f193_38 n g2 r2 t = r2 t2 ∧ EO U len b tb ub q dp nd cd us s t s2 t2 := by
  have hcn := h.2.2.2.2.2.2.2.2.2.2.2.1
  obtain ⟨s1, t1, t2, e1, e2, e3, o1, o2, hcase⟩ := er_node hn hb htb h hk
  have hgo : ∀ s3 t3, g s1 = some s3 → g2 t2 = some t3 → EF U len b tb s3 t3 → frE b s1 s3 → frM tb t2 t3 → ∃ s2 t2, f51_49 n g r i s = r (i + 1) s2 ∧ f193_38 n g2 r2 t = r2 t2 ∧ EO U len b tb ub q dp nd cd us s t s2 t2 := by
    intro s3 t3 e4 e5 hE o3 o4
    have h5 : s3.2.2 1004 5 = some (b + 19) := by obtain ⟨f, x, h1, -⟩ := hE; exact FC_5 h1
    obtain ⟨s4, e6, e7, o5, hE2⟩ := ef_emit (n := n) (c := s.1 1001 4) (d := 0) (c2 := 7) (d2 := t.1 1132 8) hb hE
    refine ⟨s4, t3, ?_, ?_, frE_tr (frE_tr o1 o3) o5, frM_tr o2 o4, Or.inr hE2⟩
    · simp only [f51_49, zlet, e1, yb0_s, e4, h5, zrd_s (ck6_of hb), e6]
    · simp only [f193_38, zlet, e2, yb0_s, e3, e5, e7]
  rcases hcase with ⟨hlt, hER⟩ | hE
  · obtain ⟨s3, t3, e4, e5, o3, o4, hc⟩ := hB.1 _ _ _ _ _ _ _ hD hER
    rcases hc with ⟨q2, nd2, cd2, us2, a1, a2, a3, a4, hER2⟩ | hE
    · have h5 : s3.2.2 1004 5 = some (b + 19) := ER_5 hER2
      obtain ⟨s4, t4, e6, e7, o5, o6, hER3⟩ := er_emit (n := n) (c := s.1 1001 4) (d := 0) (c2 := 7) (d2 := t.1 1132 8) hb htb hER2 (by omega)
      refine ⟨s4, t4, ?_, ?_, frE_tr (frE_tr o1 o3) o5, frM_tr (frM_tr o2 o4) o6, Or.inl ⟨q2, nd2, cd2 + 1, us2, Nat.lt_trans (tkNx_gt hql) a1, by omega, by omega, by omega, hER3⟩⟩
      · simp only [f51_49, zlet, e1, yb0_s, e4, h5, zrd_s (ck6_of hb), e6]
      · simp only [f193_38, zlet, e2, yb0_s, e3, e5, e7]
    · exact hgo s3 t3 e4 e5 hE o3 o4
  · obtain ⟨f, x, h1, h2⟩ := hE
    obtain ⟨s3, e4, g3, o3⟩ := hB.2.1 f x s1 h1
    obtain ⟨t3, e5, g4, o4⟩ := hB.2.2 f x t2 h2
    exact hgo s3 t3 e4 e5 ⟨f, x, g3, g4⟩ o3 o4
theorem term_loop {g g2 : zσ → Option zσ} (hn : 5000 ≤ n) (hb : zck 9 b = true) (htb : zck 12 tb = true) (hB : EB U len b tb ub D (g) (g2)) : ∀ (m q dp nd cd us i j j2 : Nat) (s t : zσ), len - q ≤ m → D ≤ dp → ER U len b tb ub q dp nd cd us s t → i ≤ q → m < j → m < j2 → ∃ s2 t2, f51_6 n g j (nI i) s = some s2 ∧ f193_4 n g2 j2 t = some t2 ∧ EO0 U len b tb ub q dp nd cd us s t s2 t2 := by
  intro m
  induction m with
  | zero =>
    intro q dp nd cd us i j j2 s t hm hD h hi hj hj2
    obtain ⟨j, rfl⟩ : ∃ j0, j = j0 + 1 := ⟨j - 1, by omega⟩
    obtain ⟨j2, rfl⟩ : ∃ j0, j2 = j0 + 1 := ⟨j2 - 1, by omega⟩
    obtain ⟨hq, hU, hl⟩ := ER_q h
    have hno : ¬ (tkKind U len q = 42 ∨ tkKind U len q = 47 ∨ tkKind U len q = 37) := fun e => by
      rcases e with e | e | e
      · have := (tk_byte (c := 42) hU hq (by decide) (by decide)).mp e; omega
      · have := (tk_byte (c := 47) hU hq (by decide) (by decide)).mp e; omega
      · have := (tk_byte (c := 37) hU hq (by decide) (by decide)).mp e; omega
    exact ⟨s, t, (term_ch h).2 hno, (term_mh h).2 hno, frE_rf, frM_rf, Or.inl ⟨q, nd, cd, us, Nat.le_refl _, Nat.le_refl _, by omega, by omega, h⟩⟩
  | succ m ih =>
    intro q dp nd cd us i j j2 s t hm hD h hi hj hj2
    obtain ⟨j, rfl⟩ : ∃ j0, j = j0 + 1 := ⟨j - 1, by omega⟩
    obtain ⟨j2, rfl⟩ : ∃ j0, j2 = j0 + 1 := ⟨j2 - 1, by omega⟩
    obtain ⟨hq, hU, hl⟩ := ER_q h
    by_cases hk : tkKind U len q = 42 ∨ tkKind U len q = 47 ∨ tkKind U len q = 37
    · have hql : q < len := by
        have e := hk
        rcases e with e | e | e
        · have := (tk_byte (c := 42) hU hq (by decide) (by decide)).mp e; omega
        · have := (tk_byte (c := 47) hU hq (by decide) (by decide)).mp e; omega
        · have := (tk_byte (c := 37) hU hq (by decide) (by decide)).mp e; omega
      have hk0 : ¬ tkKind U len q = 0 := fun e0 => by
        rw [e0] at hk
        revert hk
        decide
      obtain ⟨s3, t3, e1, e2, o1, o2, hc⟩ := term_more (i := nI i) hn hb htb hB hD h hk0 hql (f51_6 n g j) (f193_4 n g2 j2)
      rw [(term_ch h).1 hk (by omega), (term_mh h).1 hk, e1, e2, nI_1]
      rcases hc with ⟨q2, nd2, cd2, us2, a1, a2, a3, a4, hER2⟩ | ⟨f, x, h1, h2⟩
      · obtain ⟨s4, t4, e3, e4, o3, o4, hc2⟩ := ih q2 dp nd2 cd2 us2 (i + 1) j j2 s3 t3 (by omega) hD hER2 (by omega) (by omega) (by omega)
        refine ⟨s4, t4, e3, e4, frE_tr o1 o3, frM_tr o2 o4, ?_⟩
        rcases hc2 with ⟨q3, nd3, cd3, us3, b1, b2, b3, b4, hER3⟩ | hE
        · exact Or.inl ⟨q3, nd3, cd3, us3, by omega, by omega, by omega, by omega, hER3⟩
        · exact Or.inr hE
      · obtain ⟨j, rfl⟩ : ∃ j0, j = j0 + 1 := ⟨j - 1, by omega⟩
        obtain ⟨j2, rfl⟩ : ∃ j0, j2 = j0 + 1 := ⟨j2 - 1, by omega⟩
        exact ⟨s3, t3, term_fc h1, term_fm h2, o1, o2, Or.inr ⟨f, x, h1, h2⟩⟩
    · exact ⟨s, t, (term_ch h).2 hk, (term_mh h).2 hk, frE_rf, frM_rf, Or.inl ⟨q, nd, cd, us, Nat.le_refl _, Nat.le_refl _, by omega, by omega, h⟩⟩
theorem term_pair {g g2 : zσ → Option zσ} (hn : 5000 ≤ n) (hb : zck 9 b = true) (htb : zck 12 tb = true) (hB : EB U len b tb ub D (g) (g2)) : EB U len b tb ub D (f51 n g) (f193 n g2) := by
  obtain ⟨n, rfl⟩ : ∃ n0, n = n0 + 1 := ⟨n - 1, by omega⟩
  refine ⟨fun q dp nd cd us s t hD h => ?_, fun f x s h => ?_, fun f x t h => ?_⟩
  · obtain ⟨s1, t1, e1, e2, o1, o2, hc⟩ := hB.1 q dp nd cd us s t hD h
    rcases hc with ⟨q2, nd2, cd2, us2, a1, a2, a3, a4, hER2⟩ | ⟨f, x, h1, h2⟩
    · obtain ⟨hq2, -, hl⟩ := ER_q hER2
      obtain ⟨s2, t2, e3, e4, o3, o4, hc2⟩ := term_loop hn hb htb hB (len - q2) q2 dp nd2 cd2 us2 0 (n + 1) (n + 1) s1 t1 (Nat.le_refl _) hD hER2 (Nat.zero_le _) (by omega) (by omega)
      refine ⟨s2, t2, ?_, ?_, frE_tr o1 o3, frM_tr o2 o4, ?_⟩
      · unfold f51; rw [e1]; exact e3
      · unfold f193; rw [e2]; exact e4
      · rcases hc2 with ⟨q3, nd3, cd3, us3, b1, b2, b3, b4, hER3⟩ | hE
        · exact Or.inl ⟨q3, nd3, cd3, us3, by omega, by omega, by omega, by omega, hER3⟩
        · exact Or.inr hE
    · refine ⟨s1, t1, ?_, ?_, o1, o2, Or.inr ⟨f, x, h1, h2⟩⟩
      · unfold f51; rw [e1]; exact term_fc h1
      · unfold f193; rw [e2]; exact term_fm h2
  · obtain ⟨s1, e1, g1, o1⟩ := hB.2.1 f x s h
    exact ⟨s1, by unfold f51; rw [e1]; exact term_fc g1, g1, o1⟩
  · obtain ⟨t1, e1, g1, o1⟩ := hB.2.2 f x t h
    exact ⟨t1, by unfold f193; rw [e1]; exact term_fm g1, g1, o1⟩
/-! sum -/
theorem sum_fc {g : zσ → Option zσ} {f x j : Nat} {i : Int32} {s : zσ} (h : FC U len b f x s) : f50_6 n g (j + 1) i s = some s := by
  rw [f50_6, if_neg (fc_k h (by decide)), if_neg (fc_k h (by decide))]
  split <;> rfl
theorem sum_fm {g : zσ → Option zσ} {f x j : Nat} {t : zσ} (h : FM U len tb f x t) : f192_4 n g (j + 1) t = some t := by
  rw [f192_4, m_goes0 (fm_ne h)]
  rfl
theorem sum_ch {g : zσ → Option zσ} {j i q dp nd cd us : Nat} {s t : zσ} (h : ER U len b tb ub q dp nd cd us s t) : ((tkKind U len q = 43 ∨ tkKind U len q = 45) → i < 4000 → f50_6 n g (j + 1) (nI i) s = f50_37 n g (f50_6 n g j) (nI i) s) ∧ (¬ (tkKind U len q = 43 ∨ tkKind U len q = 45) → f50_6 n g (j + 1) (nI i) s = some s) := by
  rw [f50_6, ER_k h]
  constructor
  · intro hk hi
    rw [if_pos (show nI i < 4000 from nI_lt (b := 4000) hi (by decide))]
    rcases hk with e | e
    · rw [if_pos e]
    · rw [if_neg (show ¬ tkKind U len q = 43 by rw [e]; decide), if_pos e]
  · intro hk
    rw [if_neg (fun e => hk (Or.inl e)), if_neg (fun e => hk (Or.inr e))]
    split <;> rfl
theorem sum_mh {g : zσ → Option zσ} {j q dp nd cd us : Nat} {s t : zσ} (h : ER U len b tb ub q dp nd cd us s t) : ((tkKind U len q = 43 ∨ tkKind U len q = 45) → f192_4 n g (j + 1) t = f192_29 n g (f192_4 n g j) t) ∧ (¬ (tkKind U len q = 43 ∨ tkKind U len q = 45) → f192_4 n g (j + 1) t = some t) := by
  have hM := h.2.1.2
  have g43 : f177 n 43 t = some (zone (decide (tkKind U len q = 43)), t) := tm_sign (c := 43) hM.1 (by decide) (by decide)
  have g45 : f177 n 45 t = some (zone (decide (tkKind U len q = 45)), t) := tm_sign (c := 45) hM.1 (by decide) (by decide)
  rw [f192_4, m_goes hM.2, yb1_s, if_neg (by decide)]
  constructor
  · intro hk
    rcases hk with e | e
    · rw [g43, yb1_s, zone_1 e, if_neg (by decide)]
    · rw [g43, yb1_s, zone_0 (show ¬ tkKind U len q = 43 by rw [e]; decide), if_pos rfl, g45, yb1_s, zone_1 e, if_neg (by decide)]
  · intro hk
    rw [g43, yb1_s, zone_0 (fun e => hk (Or.inl e)), if_pos rfl, g45, yb1_s, zone_0 (fun e => hk (Or.inr e)), if_pos rfl]
/-- one more, behind a sign; then what goes on, for any loops r, r2 -/
theorem sum_more {g g2 : zσ → Option zσ} (hn : 5000 ≤ n) (hb : zck 9 b = true) (htb : zck 12 tb = true) (hB : EB U len b tb ub D (f51 n g) (f193 n g2)) {q dp nd cd us : Nat} {i : Int32} {s t : zσ} (hD : D ≤ dp) (h : ER U len b tb ub q dp nd cd us s t) (hk : ¬ tkKind U len q = 0) (hql : q < len) (r : Int32 → zσ → Option zσ) (r2 : zσ → Option zσ) : ∃ s2 t2, f50_37 n g r i s = r (i + 1) s2 ∧ f192_29 n g2 r2 t = r2 t2 ∧ EO U len b tb ub q dp nd cd us s t s2 t2 := by
  have hcn := h.2.2.2.2.2.2.2.2.2.2.2.1
  obtain ⟨s1, t1, t2, e1, e2, e3, o1, o2, hcase⟩ := er_node hn hb htb h hk
  have hgo : ∀ s3 t3, f51 n g s1 = some s3 → f193 n g2 t2 = some t3 → EF U len b tb s3 t3 → frE b s1 s3 → frM tb t2 t3 → ∃ s2 t2, f50_37 n g r i s = r (i + 1) s2 ∧ f192_29 n g2 r2 t = r2 t2 ∧ EO U len b tb ub q dp nd cd us s t s2 t2 := by
    intro s3 t3 e4 e5 hE o3 o4
    have h5 : s3.2.2 1004 5 = some (b + 19) := by obtain ⟨f, x, h1, -⟩ := hE; exact FC_5 h1
    obtain ⟨s4, e6, e7, o5, hE2⟩ := ef_emit (n := n) (c := s.1 1001 4) (d := 0) (c2 := 7) (d2 := t.1 1132 8) hb hE
    refine ⟨s4, t3, ?_, ?_, frE_tr (frE_tr o1 o3) o5, frM_tr o2 o4, Or.inr hE2⟩
    · simp only [f50_37, zlet, e1, yb0_s, e4, h5, zrd_s (ck6_of hb), e6]
    · simp only [f192_29, zlet, e2, yb0_s, e3, e5, e7]
  rcases hcase with ⟨hlt, hER⟩ | hE
  · obtain ⟨s3, t3, e4, e5, o3, o4, hc⟩ := hB.1 _ _ _ _ _ _ _ hD hER
    rcases hc with ⟨q2, nd2, cd2, us2, a1, a2, a3, a4, hER2⟩ | hE
    · have h5 : s3.2.2 1004 5 = some (b + 19) := ER_5 hER2
      obtain ⟨s4, t4, e6, e7, o5, o6, hER3⟩ := er_emit (n := n) (c := s.1 1001 4) (d := 0) (c2 := 7) (d2 := t.1 1132 8) hb htb hER2 (by omega)
      refine ⟨s4, t4, ?_, ?_, frE_tr (frE_tr o1 o3) o5, frM_tr (frM_tr o2 o4) o6, Or.inl ⟨q2, nd2, cd2 + 1, us2, Nat.lt_trans (tkNx_gt hql) a1, by omega, by omega, by omega, hER3⟩⟩
      · simp only [f50_37, zlet, e1, yb0_s, e4, h5, zrd_s (ck6_of hb), e6]
      · simp only [f192_29, zlet, e2, yb0_s, e3, e5, e7]
    · exact hgo s3 t3 e4 e5 hE o3 o4
  · obtain ⟨f, x, h1, h2⟩ := hE
    obtain ⟨s3, e4, g3, o3⟩ := hB.2.1 f x s1 h1
    obtain ⟨t3, e5, g4, o4⟩ := hB.2.2 f x t2 h2
    exact hgo s3 t3 e4 e5 ⟨f, x, g3, g4⟩ o3 o4
theorem sum_loop {g g2 : zσ → Option zσ} (hn : 5000 ≤ n) (hb : zck 9 b = true) (htb : zck 12 tb = true) (hB : EB U len b tb ub D (f51 n g) (f193 n g2)) : ∀ (m q dp nd cd us i j j2 : Nat) (s t : zσ), len - q ≤ m → D ≤ dp → ER U len b tb ub q dp nd cd us s t → i ≤ q → m < j → m < j2 → ∃ s2 t2, f50_6 n g j (nI i) s = some s2 ∧ f192_4 n g2 j2 t = some t2 ∧ EO0 U len b tb ub q dp nd cd us s t s2 t2 := by
  intro m
  induction m with
  | zero =>
    intro q dp nd cd us i j j2 s t hm hD h hi hj hj2
    obtain ⟨j, rfl⟩ : ∃ j0, j = j0 + 1 := ⟨j - 1, by omega⟩
    obtain ⟨j2, rfl⟩ : ∃ j0, j2 = j0 + 1 := ⟨j2 - 1, by omega⟩
    obtain ⟨hq, hU, hl⟩ := ER_q h
    have hno : ¬ (tkKind U len q = 43 ∨ tkKind U len q = 45) := fun e => by
      rcases e with e | e
      · have := (tk_byte (c := 43) hU hq (by decide) (by decide)).mp e; omega
      · have := (tk_byte (c := 45) hU hq (by decide) (by decide)).mp e; omega
    exact ⟨s, t, (sum_ch h).2 hno, (sum_mh h).2 hno, frE_rf, frM_rf, Or.inl ⟨q, nd, cd, us, Nat.le_refl _, Nat.le_refl _, by omega, by omega, h⟩⟩
  | succ m ih =>
    intro q dp nd cd us i j j2 s t hm hD h hi hj hj2
    obtain ⟨j, rfl⟩ : ∃ j0, j = j0 + 1 := ⟨j - 1, by omega⟩
    obtain ⟨j2, rfl⟩ : ∃ j0, j2 = j0 + 1 := ⟨j2 - 1, by omega⟩
    obtain ⟨hq, hU, hl⟩ := ER_q h
    by_cases hk : tkKind U len q = 43 ∨ tkKind U len q = 45
    · have hql : q < len := by
        have e := hk
        rcases e with e | e
        · have := (tk_byte (c := 43) hU hq (by decide) (by decide)).mp e; omega
        · have := (tk_byte (c := 45) hU hq (by decide) (by decide)).mp e; omega
      have hk0 : ¬ tkKind U len q = 0 := fun e0 => by
        rw [e0] at hk
        revert hk
        decide
      obtain ⟨s3, t3, e1, e2, o1, o2, hc⟩ := sum_more (i := nI i) hn hb htb hB hD h hk0 hql (f50_6 n g j) (f192_4 n g2 j2)
      rw [(sum_ch h).1 hk (by omega), (sum_mh h).1 hk, e1, e2, nI_1]
      rcases hc with ⟨q2, nd2, cd2, us2, a1, a2, a3, a4, hER2⟩ | ⟨f, x, h1, h2⟩
      · obtain ⟨s4, t4, e3, e4, o3, o4, hc2⟩ := ih q2 dp nd2 cd2 us2 (i + 1) j j2 s3 t3 (by omega) hD hER2 (by omega) (by omega) (by omega)
        refine ⟨s4, t4, e3, e4, frE_tr o1 o3, frM_tr o2 o4, ?_⟩
        rcases hc2 with ⟨q3, nd3, cd3, us3, b1, b2, b3, b4, hER3⟩ | hE
        · exact Or.inl ⟨q3, nd3, cd3, us3, by omega, by omega, by omega, by omega, hER3⟩
        · exact Or.inr hE
      · obtain ⟨j, rfl⟩ : ∃ j0, j = j0 + 1 := ⟨j - 1, by omega⟩
        obtain ⟨j2, rfl⟩ : ∃ j0, j2 = j0 + 1 := ⟨j2 - 1, by omega⟩
        exact ⟨s3, t3, sum_fc h1, sum_fm h2, o1, o2, Or.inr ⟨f, x, h1, h2⟩⟩
    · exact ⟨s, t, (sum_ch h).2 hk, (sum_mh h).2 hk, frE_rf, frM_rf, Or.inl ⟨q, nd, cd, us, Nat.le_refl _, Nat.le_refl _, by omega, by omega, h⟩⟩
theorem sum_pair {g g2 : zσ → Option zσ} (hn : 5000 ≤ n) (hb : zck 9 b = true) (htb : zck 12 tb = true) (hB : EB U len b tb ub D (f51 n g) (f193 n g2)) : EB U len b tb ub D (f50 n g) (f192 n g2) := by
  obtain ⟨n, rfl⟩ : ∃ n0, n = n0 + 1 := ⟨n - 1, by omega⟩
  refine ⟨fun q dp nd cd us s t hD h => ?_, fun f x s h => ?_, fun f x t h => ?_⟩
  · obtain ⟨s1, t1, e1, e2, o1, o2, hc⟩ := hB.1 q dp nd cd us s t hD h
    rcases hc with ⟨q2, nd2, cd2, us2, a1, a2, a3, a4, hER2⟩ | ⟨f, x, h1, h2⟩
    · obtain ⟨hq2, -, hl⟩ := ER_q hER2
      obtain ⟨s2, t2, e3, e4, o3, o4, hc2⟩ := sum_loop hn hb htb hB (len - q2) q2 dp nd2 cd2 us2 0 (n + 1) (n + 1) s1 t1 (Nat.le_refl _) hD hER2 (Nat.zero_le _) (by omega) (by omega)
      refine ⟨s2, t2, ?_, ?_, frE_tr o1 o3, frM_tr o2 o4, ?_⟩
      · unfold f50; rw [e1]; exact e3
      · unfold f192; rw [e2]; exact e4
      · rcases hc2 with ⟨q3, nd3, cd3, us3, b1, b2, b3, b4, hER3⟩ | hE
        · exact Or.inl ⟨q3, nd3, cd3, us3, by omega, by omega, by omega, by omega, hER3⟩
        · exact Or.inr hE
    · refine ⟨s1, t1, ?_, ?_, o1, o2, Or.inr ⟨f, x, h1, h2⟩⟩
      · unfold f50; rw [e1]; exact sum_fc h1
      · unfold f192; rw [e2]; exact sum_fm h2
  · obtain ⟨s1, e1, g1, o1⟩ := hB.2.1 f x s h
    exact ⟨s1, by unfold f50; rw [e1]; exact sum_fc g1, g1, o1⟩
  · obtain ⟨t1, e1, g1, o1⟩ := hB.2.2 f x t h
    exact ⟨t1, by unfold f192; rw [e1]; exact sum_fm g1, g1, o1⟩
/-! comparisons -/
theorem cmp_fc {g : zσ → Option zσ} {f x : Nat} {s : zσ} (h : FC U len b f x s) : (zlet (s.1 1001 4) fun v2 => if v2 = (61 : Int32) then f49_30 n g v2 s else if v2 = (60 : Int32) then f49_30 n g v2 s else if v2 = (62 : Int32) then f49_30 n g v2 s else some s) = some s := by
  show (if s.1 1001 4 = (61 : Int32) then _ else _) = _
  rw [if_neg (fc_k h (by decide)), if_neg (fc_k h (by decide)), if_neg (fc_k h (by decide))]
theorem expr_pair {g g2 : zσ → Option zσ} (hn : 5000 ≤ n) (hb : zck 9 b = true) (htb : zck 12 tb = true) (hB : EB U len b tb ub D (f50 n g) (f192 n g2)) : EB U len b tb ub D (f49 n g) (f191 n g2) := by
  refine ⟨fun q dp nd cd us s t hD h => ?_, fun f x s h => ?_, fun f x t h => ?_⟩
  · obtain ⟨s1, t1, e1, e2, o1, o2, hc⟩ := hB.1 q dp nd cd us s t hD h
    rcases hc with ⟨q2, nd2, cd2, us2, a1, a2, a3, a4, hER⟩ | ⟨f, x, h1, h2⟩
    · have hcn := hER.2.2.2.2.2.2.2.2.2.2.2.1
      obtain ⟨hq2, hU, hl⟩ := ER_q hER
      have hM := hER.2.1.2
      have g61 : f177 n 61 t1 = some (zone (decide (tkKind U len q2 = 61)), t1) := tm_sign (c := 61) hM.1 (by decide) (by decide)
      have g60 : f177 n 60 t1 = some (zone (decide (tkKind U len q2 = 60)), t1) := tm_sign (c := 60) hM.1 (by decide) (by decide)
      have g62 : f177 n 62 t1 = some (zone (decide (tkKind U len q2 = 62)), t1) := tm_sign (c := 62) hM.1 (by decide) (by decide)
      by_cases hk : tkKind U len q2 = 61 ∨ tkKind U len q2 = 60 ∨ tkKind U len q2 = 62
      · have hql : q2 < len := by
          rcases hk with e | e | e
          · have := (tk_byte (c := 61) hU hq2 (by decide) (by decide)).mp e; omega
          · have := (tk_byte (c := 60) hU hq2 (by decide) (by decide)).mp e; omega
          · have := (tk_byte (c := 62) hU hq2 (by decide) (by decide)).mp e; omega
        have hk0 : ¬ tkKind U len q2 = 0 := fun e0 => by
          rw [e0] at hk
          revert hk
          decide
        have hc1 : f49 n g s = f49_30 n g (s1.1 1001 4) s1 := by
          unfold f49
          rw [e1]
          show (if s1.1 1001 4 = (61 : Int32) then f49_30 n g (s1.1 1001 4) s1 else if s1.1 1001 4 = (60 : Int32) then f49_30 n g (s1.1 1001 4) s1 else if s1.1 1001 4 = (62 : Int32) then f49_30 n g (s1.1 1001 4) s1 else some s1) = _
          rw [ER_k hER]
          rcases hk with e | e | e
          · rw [if_pos e]
          · rw [if_neg (show ¬ tkKind U len q2 = 61 by rw [e]; decide), if_pos e]
          · rw [if_neg (show ¬ tkKind U len q2 = 61 by rw [e]; decide), if_neg (show ¬ tkKind U len q2 = 60 by rw [e]; decide), if_pos e]
        have hm1 : f191 n g2 t = f191_38 n g2 t1 := by
          unfold f191
          rw [e2, yb0_s, m_goes hM.2, yb1_s, if_neg (by decide)]
          rcases hk with e | e | e
          · rw [g61, yb1_s, zone_1 e, if_neg (by decide)]
          · rw [g61, yb1_s, zone_0 (show ¬ tkKind U len q2 = 61 by rw [e]; decide), if_pos rfl, g60, yb1_s, zone_1 e, if_neg (by decide)]
          · rw [g61, yb1_s, zone_0 (show ¬ tkKind U len q2 = 61 by rw [e]; decide), if_pos rfl, g60, yb1_s, zone_0 (show ¬ tkKind U len q2 = 60 by rw [e]; decide), if_pos rfl, g62, yb1_s, zone_1 e, if_neg (by decide)]
        rw [hc1, hm1]
        obtain ⟨s2, t2, t3, x1, x2, x3, p1, p2, hcase⟩ := er_node hn hb htb hER hk0
        have hgo : ∀ s3 t4, f50 n g s2 = some s3 → f192 n g2 t3 = some t4 → EF U len b tb s3 t4 → frE b s2 s3 → frM tb t3 t4 → ∃ s9 t9, f49_30 n g (s1.1 1001 4) s1 = some s9 ∧ f191_38 n g2 t1 = some t9 ∧ EO U len b tb ub q dp nd cd us s t s9 t9 := by
          intro s3 t4 y1 y2 hE p3 p4
          have h5 : s3.2.2 1004 5 = some (b + 19) := by obtain ⟨f, x, h1, -⟩ := hE; exact FC_5 h1
          obtain ⟨s4, y3, y4, p5, hE2⟩ := ef_emit (n := n) (c := s1.1 1001 4) (d := 0) (c2 := 7) (d2 := t1.1 1132 8) hb hE
          refine ⟨s4, t4, ?_, ?_, frE_tr o1 (frE_tr (frE_tr p1 p3) p5), frM_tr o2 (frM_tr p2 p4), Or.inr hE2⟩
          · simp only [f49_30, x1, yb0_s, y1, h5, zrd_s (ck6_of hb), y3]
          · simp only [f191_38, zlet, x2, yb0_s, x3, y2, y4]
        rcases hcase with ⟨hlt, hER2⟩ | hE
        · obtain ⟨s3, t4, y1, y2, p3, p4, hc2⟩ := hB.1 _ _ _ _ _ _ _ hD hER2
          rcases hc2 with ⟨q3, nd3, cd3, us3, b1, b2, b3, b4, hER3⟩ | hE
          · have h5 : s3.2.2 1004 5 = some (b + 19) := ER_5 hER3
            obtain ⟨s4, t5, y3, y4, p5, p6, hER4⟩ := er_emit (n := n) (c := s1.1 1001 4) (d := 0) (c2 := 7) (d2 := t1.1 1132 8) hb htb hER3 (by omega)
            have hgt := tkNx_gt (U := U) hql
            refine ⟨s4, t5, ?_, ?_, frE_tr o1 (frE_tr (frE_tr p1 p3) p5), frM_tr o2 (frM_tr (frM_tr p2 p4) p6), Or.inl ⟨q3, nd3, cd3 + 1, us3, by omega, by omega, by omega, by omega, hER4⟩⟩
            · simp only [f49_30, x1, yb0_s, y1, h5, zrd_s (ck6_of hb), y3]
            · simp only [f191_38, zlet, x2, yb0_s, x3, y2, y4]
          · exact hgo s3 t4 y1 y2 hE p3 p4
        · obtain ⟨f, x, h1, h2⟩ := hE
          obtain ⟨s3, y1, z1, p3⟩ := hB.2.1 f x s2 h1
          obtain ⟨t4, y2, z2, p4⟩ := hB.2.2 f x t3 h2
          exact hgo s3 t4 y1 y2 ⟨f, x, z1, z2⟩ p3 p4
      · refine ⟨s1, t1, ?_, ?_, o1, o2, Or.inl ⟨q2, nd2, cd2, us2, a1, a2, a3, a4, hER⟩⟩
        · unfold f49
          rw [e1]
          show (if s1.1 1001 4 = (61 : Int32) then f49_30 n g (s1.1 1001 4) s1 else if s1.1 1001 4 = (60 : Int32) then f49_30 n g (s1.1 1001 4) s1 else if s1.1 1001 4 = (62 : Int32) then f49_30 n g (s1.1 1001 4) s1 else some s1) = _
          rw [ER_k hER, if_neg (fun e => hk (Or.inl e)), if_neg (fun e => hk (Or.inr (Or.inl e))), if_neg (fun e => hk (Or.inr (Or.inr e)))]
        · unfold f191
          rw [e2, yb0_s, m_goes hM.2, yb1_s, if_neg (by decide), g61, yb1_s, zone_0 (fun e => hk (Or.inl e)), if_pos rfl, g60, yb1_s, zone_0 (fun e => hk (Or.inr (Or.inl e))), if_pos rfl, g62, yb1_s, zone_0 (fun e => hk (Or.inr (Or.inr e))), if_pos rfl]
    · refine ⟨s1, t1, ?_, ?_, o1, o2, Or.inr ⟨f, x, h1, h2⟩⟩
      · unfold f49; rw [e1]; exact cmp_fc h1
      · unfold f191; rw [e2, yb0_s, m_goes0 (fm_ne h2)]; rfl
  · obtain ⟨s1, e1, g1, o1⟩ := hB.2.1 f x s h
    exact ⟨s1, by unfold f49; rw [e1]; exact cmp_fc g1, g1, o1⟩
  · obtain ⟨t1, e1, g1, o1⟩ := hB.2.2 f x t h
    exact ⟨t1, by unfold f191; rw [e1, yb0_s, m_goes0 (fm_ne g1)]; rfl, g1, o1⟩
end ZEX
