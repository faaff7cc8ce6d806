/-! a name in an expression; a factor -/
section ZFB
variable {U : Nat → Nat} {len n b tb ub D : Nat}
/-- countNode and node, where the token stays -/
theorem er_cnt {q dp nd cd us : Nat} {s t : zσ} (hb : zck 9 b = true) (htb : zck 12 tb = true) (h : ER U len b tb ub q dp nd cd us s t) (hk : ¬ tkKind U len q = 0) : ∃ s1 t1, f53 n s = some s1 ∧ f195 n t = some t1 ∧ frE b s s1 ∧ frM tb t t1 ∧ ((nd < 400 ∧ ER U len b tb ub q dp (nd + 1) cd us s1 t1) ∨ EF U len b tb s1 t1) := by
  obtain ⟨hC, hM, h7, h9, h14, h12, c10, m27, h400, c11, m31, hcn, m34, hus⟩ := h
  have n19 : (1004 : Nat) ≠ b + 19 := by rcases ckb hb with rfl | rfl <;> decide
  by_cases hlt : nd < 400
  · obtain ⟨e1, g1⟩ := (gc_cnt (n := n) hb hC c10 h400).1 hlt
    obtain ⟨e2, g2⟩ := (gm_node (n := n) htb hM m27 h400).1 hlt
    refine ⟨_, _, e1, e2, frE_19 (Or.inl rfl) hb, frM_tb (Or.inl rfl) htb, Or.inl ⟨hlt, g1, g2, ?_, ?_, ?_, h12, rIe, rIe, by omega, ?_, ?_, by omega, ?_, by omega⟩⟩
    · rw [rIo n19]; exact h7
    · rw [rIo n19]; exact h9
    · rw [rIo (n_tb htb 0).1]; exact h14
    · rw [rIk (by decide)]; exact c11
    · rw [rIk (by decide)]; exact m31
    · rw [rIk (by decide)]; exact m34
  · have he : nd = 400 := by omega
    obtain ⟨s1, e1, g1, o1⟩ := (gc_cnt (n := n) hb hC c10 h400).2 he
    obtain ⟨t1, e2, g2, o2⟩ := (gm_node (n := n) htb hM m27 h400).2 he
    rw [zft_3 hk] at g1
    exact ⟨s1, t1, e1, e2, frE_R hb o1, frM_T htb o2, Or.inr ⟨3, q, g1, g2⟩⟩
/-- the reference's wanted row set: nothing of the relation changes -/
theorem er_31 {q dp nd cd us k : Nat} {v : Int32} {s t : zσ} (htb : zck 12 tb = true) (h : ER U len b tb ub q dp nd cd us s t) : ER U len b tb ub q dp nd cd us s (sI t (tb + 31) k v) ∧ frM tb t (sI t (tb + 31) k v) := by
  obtain ⟨hC, hM, h7, h9, h14, h12, c10, m27, h400, c11, m31, hcn, m34, hus⟩ := h
  have e : (sI t (tb + 31) k v).1 tb = t.1 tb := rIo (by omega)
  have e0 : (sI t (tb + 31) k v).1 1132 = t.1 1132 := rIo (n_tb htb 31).1
  have e3 : (sI t (tb + 31) k v).1 1133 = t.1 1133 := rIo (n_tb htb 31).2
  have hG : GM U len tb q (sI t (tb + 31) k v) := by
    obtain ⟨⟨⟨a1, a2, a3⟩, ⟨p, hp, b2⟩, b3, b4, b5, b6⟩, hM2⟩ := hM
    exact ⟨⟨⟨a1, by rw [e0]; exact a2, fun i hi => by rw [e3]; exact a3 i hi⟩, ⟨p, hp, by rw [e0]; exact b2⟩, b3, by rw [e]; exact b4, by rw [e]; exact b5, by rw [e]; exact b6⟩, MG_a (n_tb htb 31).1 (n_tb htb 31).2 hM2⟩
  exact ⟨⟨hC, hG, h7, h9, by rw [e0]; exact h14, h12, c10, by rw [e]; exact m27, h400, c11, by rw [e]; exact m31, hcn, by rw [e]; exact m34, hus⟩, ⟨fun a _ _ d => rIo (by omega), fun _ _ _ => rfl, rfl, fun k _ _ _ _ _ _ _ _ => by rw [e0], fun k _ _ _ => by rw [e]⟩⟩
/-- named -/
theorem named_pair {g g2 : zσ → Option zσ} (hn : 5000 ≤ n) (hb : zck 9 b = true) (htb : zck 12 tb = true) (hub : ub ≤ 900) {q dp nd cd us : Nat} {s t : zσ} (hB : dp < 12 → EB U len b tb ub (dp + 1) (f49 n g) (f191 n g2)) (h : ER U len b tb ub q dp nd cd us s t) (hk : tkKind U len q = 1) (hql : q < len) : ∃ s2 t1 t2, f55 n g s = some s2 ∧ f195 n t = some t1 ∧ f197 n g2 t1 = some t2 ∧ EO U len b tb ub q dp nd cd us s t s2 t2 := by
  have hk0 : ¬ tkKind U len q = 0 := by rw [hk]; decide
  have hgt := tkNx_gt (U := U) hql
  obtain ⟨s1, t1, e1, e2, o1, o2, hc⟩ := er_cnt (n := n) hb htb h hk0
  rcases hc with ⟨hlt, hER⟩ | hE
  · have hcn := h.2.2.2.2.2.2.2.2.2.2.2.1
    have hus := h.2.2.2.2.2.2.2.2.2.2.2.2.2
    obtain ⟨v, ev, hv⟩ := gc_peek hn hER.1
    by_cases hbr : tkKind U len (tkNx U len q) = 91
    · obtain ⟨s2, t2, e3, e4, o3, o4, hER2⟩ := (er_use (x := 1) (y := 10) hn hb htb hub hER (by omega)).1 hk
      have hM2 := hER2.2.1.2
      have g91 : f177 n 91 t2 = some (zone (decide (tkKind U len (tkNx U len q) = 91)), t2) := tm_sign (c := 91) hM2.1 (by decide) (by decide)
      have hin : zin? (nI us) 1400 = true := zin_nI (by omega) (by decide)
      obtain ⟨hER3, o5⟩ := er_31 (k := nx (nI us)) (v := 1) htb hER2
      have h12 := h.2.2.2.2.2.1
      have hk92 : ¬ tkKind U len (tkNx U len q) = 0 := by rw [hbr]; decide
      -- the class's side up to the bracket, the reference's too
      have hcc : f55 n g s = yb1 (f41 n 91 s2) fun v7 u6 => if v7 = (0 : Int32) then some u6 else yb0 (f49 n g u6) fun u8 => yb0 (f37 n (93 : Int32) u8) fun u9 => zlet (sI u9 1004 9 ((u9.1 1004 9) - (1 : Int32))) fun u10 => zrd 6 (u10.2.2 1004 5) fun a11 => yb0 (f54 n a11 (91 : Int32) 0 u10) fun u12 => some u12 := by
        unfold f55
        rw [e1, yb0_s, ev, yb1_s, if_pos (hv.mpr hbr), e3, yb1_s]
      have hmm : f197 n g2 t1 = yb0 (f182 n (sI t2 (tb + 31) (nx (nI us)) 1)) fun u9 => yb1 (f167 n u9) fun v11 u10 => if v11 = (0 : Int32) then some u10 else yb0 (f164 n u10) fun u12 => yb0 (f191 n g2 u12) fun u13 => yb0 (f179 n (93 : Int32) u13) fun u14 => zlet (sI u14 1132 14 ((u14.1 1132 14) - (1 : Int32))) fun u15 => yb0 (f196 n (2 : Int32) (nI us) u15) fun u16 => some u16 := by
        unfold f197
        rw [e4, yb1_s, m_goes hM2.2, yb1_s, if_neg (by decide), g91, yb1_s, zone_1 hbr, if_neg (by decide), hER2.2.1.1.2.2.1, zrd_s htb, if_pos hin]
        rfl
      rcases Nat.lt_or_ge dp 12 with hdp | hdp
      · obtain ⟨s3, t3, t4, e5, e6, e7, e8, o6, o7, hER4⟩ := (er_open (c := 91) hn hb htb hbr hk92 hER3).1 hdp
        obtain ⟨s4, t5, s5, t6, e9, e10, e11, e12, o8, o9, hc2⟩ := er_in (c := 93) hn hb htb (by decide) (by decide) (hB hdp) (Nat.le_refl _) hER4
        rcases hc2 with ⟨q3, nd3, cd3, us3, b1, b2, b3, b4, hER5⟩ | hE
        · obtain ⟨s6, t7, e13, e14, o10, o11, hER6⟩ := er_emit (n := n) (c := 91) (d := 0) (c2 := 2) (d2 := nI us) hb htb hER5 (by omega)
          refine ⟨s6, t1, t7, ?_, e2, ?_, frE_tr (frE_tr (frE_tr (frE_tr o1 o3) o6) o8) o10, frM_tr (frM_tr (frM_tr (frM_tr (frM_tr o2 o4) o5) o7) o9) o11, Or.inl ⟨q3, nd3, cd3 + 1, us3, by omega, by omega, by omega, by omega, hER6⟩⟩
          · rw [hcc, show f41 n 91 s2 = _ from e5, yb1_s, if_neg (by decide), e9, yb0_s, show f37 n 93 s4 = _ from e10, yb0_s]
            show zrd 6 ((sI s5 1004 9 (s5.1 1004 9 - 1)).2.2 1004 5) _ = _
            rw [ER_5 hER5, zrd_s (ck6_of hb), e13]
            rfl
          · rw [hmm, e6, yb0_s, m_goes e7, yb1_s, if_neg (by decide), e8, yb0_s, e11, yb0_s, show f179 n 93 t5 = _ from e12, yb0_s]
            show yb0 (f196 n 2 (nI us) (sI t6 1132 14 (t6.1 1132 14 - 1))) _ = _
            rw [e14]
            rfl
        · have h5 : (sI s5 1004 9 (s5.1 1004 9 - 1)).2.2 1004 5 = some (b + 19) := by obtain ⟨f, x, h1, -⟩ := hE; exact FC_5 h1
          obtain ⟨s6, e13, e14, o10, hE2⟩ := ef_emit (n := n) (c := 91) (d := 0) (c2 := 2) (d2 := nI us) hb hE
          refine ⟨s6, t1, _, ?_, e2, ?_, frE_tr (frE_tr (frE_tr (frE_tr o1 o3) o6) o8) o10, frM_tr (frM_tr (frM_tr (frM_tr o2 o4) o5) o7) o9, Or.inr hE2⟩
          · rw [hcc, show f41 n 91 s2 = _ from e5, yb1_s, if_neg (by decide), e9, yb0_s, show f37 n 93 s4 = _ from e10, yb0_s]
            show zrd 6 ((sI s5 1004 9 (s5.1 1004 9 - 1)).2.2 1004 5) _ = _
            rw [h5, zrd_s (ck6_of hb), e13]
            rfl
          · rw [hmm, e6, yb0_s, m_goes e7, yb1_s, if_neg (by decide), e8, yb0_s, e11, yb0_s, show f179 n 93 t5 = _ from e12, yb0_s]
            show yb0 (f196 n 2 (nI us) (sI t6 1132 14 (t6.1 1132 14 - 1))) _ = _
            rw [e14]
            rfl
      · obtain ⟨s3, t3, e5, e6, e7, o6, o7, hE⟩ := (er_open (c := 91) hn hb htb hbr hk92 hER3).2 (by omega)
        refine ⟨s3, t1, t3, ?_, e2, ?_, frE_tr (frE_tr o1 o3) o6, frM_tr (frM_tr (frM_tr o2 o4) o5) o7, Or.inr hE⟩
        · rw [hcc, show f41 n 91 s2 = _ from e5, yb1_s, if_pos rfl]
        · rw [hmm, e6, yb0_s, m_goes0 e7, yb1_s, if_pos rfl]
    · obtain ⟨s2, t2, e3, e4, o3, o4, hER2⟩ := (er_use (x := 9) (y := 10) hn hb htb hub hER (by omega)).1 hk
      have hM2 := hER2.2.1.2
      have g91 : f177 n 91 t2 = some (zone (decide (tkKind U len (tkNx U len q) = 91)), t2) := tm_sign (c := 91) hM2.1 (by decide) (by decide)
      obtain ⟨s3, t3, e5, e6, o5, o6, hER3⟩ := er_emit (n := n) (c := 1) (d := 0) (c2 := 1) (d2 := nI us) hb htb hER2 (by omega)
      refine ⟨s3, t1, t3, ?_, e2, ?_, frE_tr (frE_tr o1 o3) o5, frM_tr (frM_tr o2 o4) o6, Or.inl ⟨_, nd + 1, cd + 1, us + 1, hgt, by omega, by omega, by omega, hER3⟩⟩
      · unfold f55
        rw [e1, yb0_s, ev, yb1_s, if_neg (fun e => hbr (hv.mp e)), ER_5 hER, zrd_s (ck6_of hb), e3, yb1_s, e5]
        rfl
      · unfold f197
        rw [e4, yb1_s, m_goes hM2.2, yb1_s, if_neg (by decide), g91, yb1_s, zone_0 hbr, if_pos rfl]
        unfold f197_77
        rw [e6]
        rfl
  · obtain ⟨f, x, h1, h2⟩ := hE
    obtain ⟨v, ev⟩ := fc_peek hn h1
    have hm : f197 n g2 t1 = some t1 := by
      unfold f197
      rw [fm_use h2, yb1_s, m_goes0 (fm_ne h2), yb1_s, if_pos rfl]
      unfold f197_77
      rw [fm_code h2]
      rfl
    by_cases hbr : v = 91
    · refine ⟨s1, t1, t1, ?_, e2, hm, o1, o2, Or.inr ⟨f, x, h1, h2⟩⟩
      unfold f55
      rw [e1, yb0_s, ev, yb1_s, if_pos hbr, fc_mean h1, yb1_s, fc_deep (by decide) h1, yb1_s, if_pos rfl]
    · obtain ⟨s2, e3, g1, o3⟩ := fc_emit (n := n) (c := 1) (d := -1) hb h1
      refine ⟨s2, t1, t1, ?_, e2, hm, frE_tr o1 o3, o2, Or.inr ⟨f, x, g1, h2⟩⟩
      unfold f55
      rw [e1, yb0_s, ev, yb1_s, if_neg hbr, FC_5 h1, zrd_s (ck6_of hb), fc_mean h1, yb1_s, e3]
      rfl
end ZFB
