/-! a factor, and with it whole expressions, first pass -/
theorem EB_mono {U : Nat → Nat} {len b tb ub D D2 : Nat} {g g2 : zσ → Option zσ} (hD : D ≤ D2) (h : EB U len b tb ub D g g2) : EB U len b tb ub D2 g g2 := ⟨fun q dp nd cd us s t h1 h2 => h.1 q dp nd cd us s t (Nat.le_trans hD h1) h2, h.2.1, h.2.2⟩
section ZFC
variable {U : Nat → Nat} {len n b tb ub D : Nat}
theorem tk_lt {q : Nat} (hq : q ≤ len) (h : ¬ tkKind U len q = 3) : q < len := by
  rcases Nat.lt_or_ge q len with h1 | h1
  · exact h1
  · exact absurd (by unfold tkKind; rw [if_pos (by omega)]) h
/-- a number or time, of the class -/
theorem lit_c {g : zσ → Option zσ} {q dp nd cd : Nat} {x : Int32} {s : zσ} (hn : 5000 ≤ n) (hb : zck 9 b = true) (h : GC U len b q s) (h7 : s.1 1004 7 = 0) (h9 : s.1 1004 9 = nI dp) (c10 : s.1 (b + 19) 10 = nI nd) (c11 : s.1 (b + 19) 11 = nI cd) (h4 : nd ≤ 400) (hcn : cd ≤ nd) : (nd < 400 → ∃ s2, f52_115 n g x s = some s2 ∧ GC U len b (tkNx U len q) s2 ∧ frE b s s2 ∧ s2.1 1004 7 = 0 ∧ s2.1 1004 9 = nI dp ∧ s2.1 (b + 19) 10 = nI (nd + 1) ∧ s2.1 (b + 19) 11 = nI (cd + 1)) ∧ (nd = 400 → ∃ s2, f52_115 n g x s = some s2 ∧ FC U len b (zft U len q 3) q s2 ∧ frE b s s2) := by
  obtain ⟨s1, e1, g1, o1, r4, r10, r11⟩ := gc_emit (n := n) (c := x) (d := s.1 1001 6) hb h
  have n19 : (1004 : Nat) ≠ b + 19 := by rcases ckb hb with rfl | rfl <;> decide
  have n19' : b + 19 ≠ 1001 := by rcases ckb hb with rfl | rfl <;> decide
  constructor
  · intro hlt
    obtain ⟨s2, e2, g2, o2⟩ := (gc_node hn hb g1 (r10.trans c10) h4).1 hlt
    refine ⟨s2, ?_, g2, frE_tr o1 (frE_tr (frE_19 (Or.inl rfl) hb) (frE_o hb o2)), ?_, ?_, ?_, ?_⟩
    · unfold f52_115
      rw [h.1.2.2.2.2.1, zrd_s (ck6_of hb), e1, yb0_s, e2]
      rfl
    · rw [(o2.1 1004 (by decide)).1, rIo n19, r4]; exact h7
    · rw [(o2.1 1004 (by decide)).1, rIo n19, r4]; exact h9
    · rw [(o2.1 (b + 19) n19').1, rIe]
    · rw [(o2.1 (b + 19) n19').1, rIk (by decide)]; exact r11 cd c11 (by omega)
  · intro he
    obtain ⟨s2, e2, g2, o2⟩ := (gc_node hn hb g1 (r10.trans c10) h4).2 he
    refine ⟨s2, ?_, g2, frE_tr o1 (frE_R hb o2)⟩
    unfold f52_115
    rw [h.1.2.2.2.2.1, zrd_s (ck6_of hb), e1, yb0_s, e2]
    rfl
/-- size and state: a word, then a name -/
theorem word_pair {g g2 : zσ → Option zσ} {q dp nd cd us : Nat} {x y c c2 : Int32} {s t : zσ} (hn : 5000 ≤ n) (hb : zck 9 b = true) (htb : zck 12 tb = true) (hub : ub ≤ 900) (h : ER U len b tb ub q dp nd cd us s t) (hk : ¬ tkKind U len q = 0) (hql : q < len) : ∃ s1 t1 t2 s3 t3, f58 n s = some s1 ∧ s1.2.2 1004 5 = some (b + 19) ∧ f52_174 n g x c (b + 19) s1 = some s3 ∧ f195 n t = some t1 ∧ f164 n t1 = some t2 ∧ f194_111 n g2 y c2 t2 = some t3 ∧ EO U len b tb ub q dp nd cd us s t s3 t3 := by
  have hcn := h.2.2.2.2.2.2.2.2.2.2.2.1
  have hus := h.2.2.2.2.2.2.2.2.2.2.2.2.2
  have hgt := tkNx_gt (U := U) hql
  obtain ⟨s1, t1, t2, e1, e2, e3, o1, o2, hc⟩ := er_node hn hb htb h hk
  rcases hc with ⟨hlt, hER⟩ | hE
  · by_cases hk1 : tkKind U len (tkNx U len q) = 1
    · obtain ⟨s2, t3, e4, e5, o3, o4, hER2⟩ := (er_use (x := x) (y := y) hn hb htb hub hER (by omega)).1 hk1
      obtain ⟨s3, t4, e6, e7, o5, o6, hER3⟩ := er_emit (n := n) (c := c) (d := 0) (c2 := c2) (d2 := nI us) hb htb hER2 (by omega)
      have hq1 : tkNx U len q ≤ tkNx U len (tkNx U len q) := Nat.le_trans (Nat.le_of_lt (tkEnd_gt (tk_lt (ER_q hER).1 (by rw [hk1]; decide)))) zsk_ge
      refine ⟨s1, t1, t2, s3, t4, e1, ER_5 hER, ?_, e2, e3, ?_, frE_tr (frE_tr o1 o3) o5, frM_tr (frM_tr o2 o4) o6, Or.inl ⟨_, nd + 1, cd + 1, us + 1, Nat.lt_of_lt_of_le hgt hq1, by omega, by omega, by omega, hER3⟩⟩
      · unfold f52_174; rw [e4, yb1_s, e6]; rfl
      · unfold f194_111; rw [e5, yb1_s, e7]; rfl
    · obtain ⟨s2, t3, e4, e5, o3, o4, hE⟩ := (er_use (x := x) (y := y) hn hb htb hub hER (by omega)).2 hk1
      obtain ⟨s3, e6, e7, o5, hE2⟩ := ef_emit (n := n) (c := c) (d := -1) (c2 := c2) (d2 := 0) hb hE
      refine ⟨s1, t1, t2, s3, t3, e1, ER_5 hER, ?_, e2, e3, ?_, frE_tr (frE_tr o1 o3) o5, frM_tr o2 o4, Or.inr hE2⟩
      · unfold f52_174; rw [e4, yb1_s, e6]; rfl
      · unfold f194_111; rw [e5, yb1_s, e7]; rfl
  · have hE0 := hE
    obtain ⟨f, z, h1, h2⟩ := hE
    obtain ⟨s3, e6, e7, o5, hE2⟩ := ef_emit (n := n) (c := c) (d := -1) (c2 := c2) (d2 := 0) hb hE0
    refine ⟨s1, t1, t2, s3, t2, e1, FC_5 h1, ?_, e2, e3, ?_, frE_tr o1 o5, o2, Or.inr hE2⟩
    · unfold f52_174; rw [fc_mean h1, yb1_s, e6]; rfl
    · unfold f194_111; rw [fm_use h2, yb1_s, e7]; rfl
theorem factor_body {g g2 : zσ → Option zσ} (hn : 5000 ≤ n) (hb : zck 9 b = true) (htb : zck 12 tb = true) (hub : ub ≤ 900) (hg : D < 12 → EB U len b tb ub (D + 1) g g2) : EB U len b tb ub D (f52b n g) (f194b n g2) := by
  refine ⟨fun q dp nd cd us s t hD h => ?_, fun f x s h => ?_, fun f x t h => ?_⟩
  · obtain ⟨hq, hU, hl⟩ := ER_q h
    have hCk := ER_k h
    have hM := h.2.1.2
    have hcn := h.2.2.2.2.2.2.2.2.2.2.2.1
    have hus := h.2.2.2.2.2.2.2.2.2.2.2.2.2
    have h12 := h.2.2.2.2.2.1
    have hX : dp < 12 → EB U len b tb ub (dp + 1) (f49 n g) (f191 n g2) := fun hlt => EB_mono (by omega) (expr_pair hn hb htb (sum_pair hn hb htb (term_pair hn hb htb (hg (by omega)))))
    have hG : dp < 12 → EB U len b tb ub (dp + 1) g g2 := fun hlt => EB_mono (by omega) (hg (by omega))
    have k2 := (tm_kind hM.1).2.1
    have nm := tm_name hn hM.1
    have w45 : f170 n 45 t = some (zone (decide (tkKind U len q = 142)), t) := tm_word hn hM.1 (by decide) (w := 14) (by decide) zo_size.1
    have w46 : f170 n 46 t = some (zone (decide (tkKind U len q = 144)), t) := tm_word hn hM.1 (by decide) (w := 16) (by decide) zo_size.2.1
    have w47 : f170 n 47 t = some (zone (decide (tkKind U len q = 143)), t) := tm_word hn hM.1 (by decide) (w := 15) (by decide) zo_size.2.2
    have s45 : f177 n 45 t = some (zone (decide (tkKind U len q = 45)), t) := tm_sign (c := 45) hM.1 (by decide) (by decide)
    have s40 : f177 n 40 t = some (zone (decide (tkKind U len q = 40)), t) := tm_sign (c := 40) hM.1 (by decide) (by decide)
    have ntb : tb ≠ 1132 := fun e => (n_tb htb 0).1 e.symm
    -- the reference's road to each case
    have hm0 : f194b n g2 t = (if t.1 1132 3 = (2 : Int32) then (yb0 (f195 n t) fun u36 => yb0 (f196 n (0 : Int32) (u36.1 1132 7) u36) fun u37 => yb0 (f164 n u37) fun u38 => some u38) else yb1 (f175 n t) fun v4 u3 => if v4 = (0 : Int32) then yb1 (f170 n 45 u3) fun v6 u5 => if v6 = (0 : Int32) then yb1 (f170 n 46 u5) fun v8 u7 => if v8 = (0 : Int32) then yb1 (f170 n 47 u7) fun v10 u9 => if v10 = (0 : Int32) then yb1 (f177 n (45 : Int32) u9) fun v12 u11 => if v12 = (0 : Int32) then yb1 (f177 n (40 : Int32) u11) fun v14 u13 => if v14 = (0 : Int32) then yb0 (f172 n u13) fun u15 => some u15 else yb0 (f182 n u13) fun u16 => yb1 (f167 n u16) fun v18 u17 => if v18 = (0 : Int32) then some u17 else yb0 (f164 n u17) fun u19 => yb0 (f191 n g2 u19) fun u20 => yb0 (f179 n (41 : Int32) u20) fun u21 => zlet (sI u21 1132 14 ((u21.1 1132 14) - (1 : Int32))) fun u22 => some u22 else yb0 (f195 n u11) fun u23 => yb0 (f182 n u23) fun u24 => yb1 (f167 n u24) fun v26 u25 => if v26 = (0 : Int32) then some u25 else yb0 (f164 n u25) fun u27 => yb0 (g2 u27) fun u28 => zlet (sI u28 1132 14 ((u28.1 1132 14) - (1 : Int32))) fun u29 => yb0 (f196 n (6 : Int32) (0 : Int32) u29) fun u30 => some u30 else yb0 (f195 n u9) fun u31 => yb0 (f164 n u31) fun u32 => yb0 (f196 n (4 : Int32) (0 : Int32) u32) fun u33 => some u33 else f194_74 n g2 u7 else f194_74 n g2 u5 else yb0 (f195 n u3) fun u34 => yb0 (f197 n g2 u34) fun u35 => some u35) := by
      unfold f194b
      rw [m_goes hM.2, yb1_s, if_neg (by decide)]
    by_cases e40 : tkKind U len q = 40
    · -- ( E )
      have hK : s.1 1001 4 = 40 := hCk.trans e40
      have hc0 : f52b n g s = yb1 (f41 n (40 : Int32) s) fun v13 u12 => if v13 = (0 : Int32) then some u12 else yb0 (f49 n g u12) fun u14 => yb0 (f37 n (41 : Int32) u14) fun u15 => zlet (sI u15 1004 9 ((u15.1 1004 9) - (1 : Int32))) fun u16 => some u16 := by
        unfold f52b
        rw [hK]
        show (if (40 : Int32) = 40 then _ else _) = _
        rw [if_pos rfl]
      have hm1 : f194b n g2 t = yb0 (f182 n t) fun u16 => yb1 (f167 n u16) fun v18 u17 => if v18 = (0 : Int32) then some u17 else yb0 (f164 n u17) fun u19 => yb0 (f191 n g2 u19) fun u20 => yb0 (f179 n (41 : Int32) u20) fun u21 => zlet (sI u21 1132 14 ((u21.1 1132 14) - (1 : Int32))) fun u22 => some u22 := by
        rw [hm0, if_neg (fun e => absurd (e40.symm.trans (k2.mp e)) (by decide)), nm, yb1_s, zone_0 (by rw [e40]; decide), if_pos rfl, w45, yb1_s, zone_0 (by rw [e40]; decide), if_pos rfl, w46, yb1_s, zone_0 (by rw [e40]; decide), if_pos rfl, w47, yb1_s, zone_0 (by rw [e40]; decide), if_pos rfl, s45, yb1_s, zone_0 (by rw [e40]; decide), if_pos rfl, s40, yb1_s, zone_1 e40, if_neg (by decide)]
      have hk0 : ¬ tkKind U len q = 0 := by rw [e40]; decide
      have hgt := tkNx_gt (U := U) (tk_lt hq (by rw [e40]; decide))
      rcases Nat.lt_or_ge dp 12 with hdp | hdp
      · obtain ⟨s1, t1, t2, e1, e2, e3, e4, o1, o2, hER⟩ := (er_open (c := 40) hn hb htb e40 hk0 h).1 hdp
        obtain ⟨s2, t3, s3, t4, e5, e6, e7, e8, o3, o4, hc⟩ := er_in (c := 41) hn hb htb (by decide) (by decide) (hX hdp) (Nat.le_refl _) hER
        refine ⟨_, _, ?_, ?_, frE_tr o1 o3, frM_tr o2 o4, ?_⟩
        · rw [hc0, show f41 n 40 s = _ from e1, yb1_s, if_neg (by decide), e5, yb0_s, show f37 n 41 s2 = _ from e6]
          rfl
        · rw [hm1, e2, yb0_s, m_goes e3, yb1_s, if_neg (by decide), e4, yb0_s, e7, yb0_s, show f179 n 41 t3 = _ from e8]
          rfl
        · rcases hc with ⟨q3, nd3, cd3, us3, b1, b2, b3, b4, hER2⟩ | hE
          · exact Or.inl ⟨q3, nd3, cd3, us3, by omega, b2, b3, b4, hER2⟩
          · exact Or.inr hE
      · obtain ⟨s1, t1, e1, e2, e3, o1, o2, hE⟩ := (er_open (c := 40) hn hb htb e40 hk0 h).2 (by omega)
        refine ⟨s1, t1, ?_, ?_, o1, o2, Or.inr hE⟩
        · rw [hc0, show f41 n 40 s = _ from e1, yb1_s, if_pos rfl]
        · rw [hm1, e2, yb0_s, m_goes0 e3, yb1_s, if_pos rfl]
    · by_cases e45 : tkKind U len q = 45
      · -- - F
        have hK : s.1 1001 4 = 45 := hCk.trans e45
        have hc0 : f52b n g s = yb0 (f53 n s) fun u5 => yb1 (f41 n (45 : Int32) u5) fun v7 u6 => if v7 = (0 : Int32) then some u6 else yb0 (g u6) fun u8 => zlet (sI u8 1004 9 ((u8.1 1004 9) - (1 : Int32))) fun u9 => zrd 6 (u9.2.2 1004 5) fun a10 => yb0 (f54 n a10 (5 : Int32) (0 : Int32) u9) fun u11 => some u11 := by
          unfold f52b
          rw [hK]
          show (if (45 : Int32) = 40 then _ else _) = _
          rw [if_neg (by decide), if_pos rfl]
        have hm1 : f194b n g2 t = yb0 (f195 n t) fun u23 => yb0 (f182 n u23) fun u24 => yb1 (f167 n u24) fun v26 u25 => if v26 = (0 : Int32) then some u25 else yb0 (f164 n u25) fun u27 => yb0 (g2 u27) fun u28 => zlet (sI u28 1132 14 ((u28.1 1132 14) - (1 : Int32))) fun u29 => yb0 (f196 n (6 : Int32) (0 : Int32) u29) fun u30 => some u30 := by
          rw [hm0, if_neg (fun e => absurd (e45.symm.trans (k2.mp e)) (by decide)), nm, yb1_s, zone_0 (by rw [e45]; decide), if_pos rfl, w45, yb1_s, zone_0 (by rw [e45]; decide), if_pos rfl, w46, yb1_s, zone_0 (by rw [e45]; decide), if_pos rfl, w47, yb1_s, zone_0 (by rw [e45]; decide), if_pos rfl, s45, yb1_s, zone_1 e45, if_neg (by decide)]
        have hk0 : ¬ tkKind U len q = 0 := by rw [e45]; decide
        have hgt := tkNx_gt (U := U) (tk_lt hq (by rw [e45]; decide))
        obtain ⟨s1, t1, e1, e2, o1, o2, hc⟩ := er_cnt (n := n) hb htb h hk0
        rcases hc with ⟨hlt, hER⟩ | hE
        · rcases Nat.lt_or_ge dp 12 with hdp | hdp
          · obtain ⟨s2, t2, t3, e3, e4, e5, e6, o3, o4, hER2⟩ := (er_open (c := 45) hn hb htb e45 hk0 hER).1 hdp
            obtain ⟨s3, t4, e7, e8, o5, o6, hc2⟩ := (hG hdp).1 _ _ _ _ _ _ _ (Nat.le_refl _) hER2
            have f14 : ∀ (v : Int32) (t : zσ), frM tb t (sI t 1132 14 v) := fun v t => (gm_14 (U := U) (len := len) (q := 0) htb).2.2
            rcases hc2 with ⟨q3, nd3, cd3, us3, b1, b2, b3, b4, hER3⟩ | hE
            · obtain ⟨s4, t5, e9, e10, o7, o8, hER4⟩ := er_emit (n := n) (c := 5) (d := 0) (c2 := 6) (d2 := 0) hb htb (er_close hb htb hER3) (by omega)
              refine ⟨s4, t5, ?_, ?_, frE_tr (frE_tr (frE_tr (frE_tr o1 o3) o5) (frE_9 hb)) o7, frM_tr (frM_tr (frM_tr (frM_tr o2 o4) o6) (f14 _ _)) o8, Or.inl ⟨q3, nd3, cd3 + 1, us3, by omega, by omega, by omega, by omega, hER4⟩⟩
              · rw [hc0, e1, yb0_s, show f41 n 45 s1 = _ from e3, yb1_s, if_neg (by decide), e7, yb0_s]
                show zrd 6 ((sI s3 1004 9 (s3.1 1004 9 - 1)).2.2 1004 5) _ = _
                rw [ER_5 (er_close hb htb hER3), zrd_s (ck6_of hb), e9]
                rfl
              · rw [hm1, e2, yb0_s, e4, yb0_s, m_goes e5, yb1_s, if_neg (by decide), e6, yb0_s, e8, yb0_s]
                show yb0 (f196 n 6 0 (sI t4 1132 14 (t4.1 1132 14 - 1))) _ = _
                rw [e10]
                rfl
            · have hE2 := ef_close (v := s3.1 1004 9 - 1) (v2 := t4.1 1132 14 - 1) hb htb hE
              have h5 : (sI s3 1004 9 (s3.1 1004 9 - 1)).2.2 1004 5 = some (b + 19) := by obtain ⟨f, x, h1, -⟩ := hE2; exact FC_5 h1
              obtain ⟨s4, e9, e10, o7, hE3⟩ := ef_emit (n := n) (c := 5) (d := 0) (c2 := 6) (d2 := 0) hb hE2
              refine ⟨s4, _, ?_, ?_, frE_tr (frE_tr (frE_tr (frE_tr o1 o3) o5) (frE_9 hb)) o7, frM_tr (frM_tr (frM_tr o2 o4) o6) (f14 _ _), Or.inr hE3⟩
              · rw [hc0, e1, yb0_s, show f41 n 45 s1 = _ from e3, yb1_s, if_neg (by decide), e7, yb0_s]
                show zrd 6 ((sI s3 1004 9 (s3.1 1004 9 - 1)).2.2 1004 5) _ = _
                rw [h5, zrd_s (ck6_of hb), e9]
                rfl
              · rw [hm1, e2, yb0_s, e4, yb0_s, m_goes e5, yb1_s, if_neg (by decide), e6, yb0_s, e8, yb0_s]
                show yb0 (f196 n 6 0 (sI t4 1132 14 (t4.1 1132 14 - 1))) _ = _
                rw [e10]
                rfl
          · obtain ⟨s2, t2, e3, e4, e5, o3, o4, hE⟩ := (er_open (c := 45) hn hb htb e45 hk0 hER).2 (by omega)
            refine ⟨s2, t2, ?_, ?_, frE_tr o1 o3, frM_tr o2 o4, Or.inr hE⟩
            · rw [hc0, e1, yb0_s, show f41 n 45 s1 = _ from e3, yb1_s, if_pos rfl]
            · rw [hm1, e2, yb0_s, e4, yb0_s, m_goes0 e5, yb1_s, if_pos rfl]
        · obtain ⟨f, x, h1, h2⟩ := hE
          obtain ⟨t2, e3, g3, o3⟩ := fm_deep (n := n) htb h2
          refine ⟨s1, t2, ?_, ?_, o1, frM_tr o2 o3, Or.inr ⟨f, x, h1, g3⟩⟩
          · rw [hc0, e1, yb0_s, fc_deep (by decide) h1, yb1_s, if_pos rfl]
          · rw [hm1, e2, yb0_s, e3, yb0_s, m_goes0 (fm_ne g3), yb1_s, if_pos rfl]
      · by_cases e1' : tkKind U len q = 1
        · -- a name
          have hK : s.1 1001 4 = 1 := hCk.trans e1'
          have hql := tk_lt hq (show ¬ tkKind U len q = 3 by rw [e1']; decide)
          obtain ⟨s2, t1, t2, e1, e2, e3, hO⟩ := named_pair hn hb htb hub hX h e1' hql
          refine ⟨s2, t2, ?_, ?_, hO⟩
          · unfold f52b
            rw [hK]
            show (if (1 : Int32) = 40 then _ else _) = _
            rw [if_neg (by decide), if_neg (by decide), if_pos rfl, e1]
            rfl
          · rw [hm0, if_neg (fun e => absurd (e1'.symm.trans (k2.mp e)) (by decide)), nm, yb1_s, zone_1 e1', if_neg (by decide), e2, yb0_s, e3]
            rfl
        · have hlit : ∀ (K : Int32), tkKind U len q = K → (∀ s2, f52_115 n g K s = some s2 → f52b n g s = some s2) → (∀ (hlt : nd < 400), ∃ t2, f194b n g2 t = some t2 ∧ GM U len tb (tkNx U len q) t2 ∧ frM tb t t2 ∧ t2.1 1132 14 = nI dp ∧ t2.1 tb 27 = nI (nd + 1) ∧ t2.1 tb 31 = nI (cd + 1) ∧ t2.1 tb 34 = nI us) → (nd = 400 → ∃ t2, f194b n g2 t = some t2 ∧ FM U len tb 3 q t2 ∧ frM tb t t2) → ¬ K = 0 → ¬ K = 3 → ∃ s2 t2, f52b n g s = some s2 ∧ f194b n g2 t = some t2 ∧ EO U len b tb ub q dp nd cd us s t s2 t2 := by
            intro K eK hcl hgo hfa hK0 hK3
            obtain ⟨hC, hMM, h7, h9, h14, -, c10, m27, h400, c11, m31, -, m34, -⟩ := h
            have hgt := tkNx_gt (U := U) (tk_lt hq (by rw [eK]; exact hK3))
            rcases Nat.lt_or_ge nd 400 with hlt | hge
            · obtain ⟨s2, x1, g1, o1, r7, r9, r10, r11⟩ := (lit_c (g := g) (x := K) hn hb hC h7 h9 c10 c11 h400 hcn).1 hlt
              obtain ⟨t2, x2, g2', o2, y14, y27, y31, y34⟩ := hgo hlt
              exact ⟨s2, t2, hcl s2 x1, x2, o1, o2, Or.inl ⟨_, nd + 1, cd + 1, us, hgt, by omega, by omega, by omega, g1, g2', r7, r9, y14, h12, r10, y27, by omega, r11, y31, by omega, y34, by omega⟩⟩
            · obtain ⟨s2, x1, g1, o1⟩ := (lit_c (g := g) (x := K) hn hb hC h7 h9 c10 c11 h400 hcn).2 (by omega)
              obtain ⟨t2, x2, g2', o2⟩ := hfa (by omega)
              rw [zft_3 (by rw [eK]; exact hK0)] at g1
              exact ⟨s2, t2, hcl s2 x1, x2, o1, o2, Or.inr ⟨3, q, g1, g2'⟩⟩
          by_cases e2' : tkKind U len q = 2
          · -- a number
            have hK : s.1 1001 4 = 2 := hCk.trans e2'
            have hm1 : f194b n g2 t = yb0 (f195 n t) fun u36 => yb0 (f196 n (0 : Int32) (u36.1 1132 7) u36) fun u37 => yb0 (f164 n u37) fun u38 => some u38 := by
              rw [hm0, if_pos (k2.mpr e2')]
            refine hlit 2 e2' (fun s2 e => ?_) (fun hlt => ?_) (fun he => ?_) (by decide) (by decide)
            · unfold f52b
              rw [hK]
              show (if (2 : Int32) = 40 then _ else _) = _
              rw [if_neg (by decide), if_neg (by decide), if_neg (by decide), if_pos rfl]
              exact e
            · obtain ⟨hC, hMM, h7, h9, h14, -, c10, m27, h400, c11, m31, -, m34, -⟩ := h
              obtain ⟨x1, g1⟩ := (gm_node (n := n) htb hMM m27 h400).1 hlt
              obtain ⟨t2, x2, g2', o2, y1, y27, y34, y31⟩ := gm_code (n := n) (c := 0) (v := (sI t tb 27 (nI (nd + 1))).1 1132 7) (cd := cd) htb g1 (by rw [rIk (by decide)]; exact m31) (by omega)
              obtain ⟨t3, x3, g3, o3⟩ := gm_next hn htb g2'
              refine ⟨t3, by rw [hm1, x1, yb0_s, x2, yb0_s, x3]; rfl, g3, frM_tr (frM_tr (frM_tb (Or.inl rfl) htb) o2) (frM_T htb o3), ?_, ?_, ?_, ?_⟩
              · rw [o3.2.2.2 14 (by decide) (by decide) (by decide) (by decide) (by decide) (by decide) (by decide), y1, rIo (n_tb htb 0).1]; exact h14
              · rw [o3.1 tb ntb, y27, rIe]
              · rw [o3.1 tb ntb, y31]
              · rw [o3.1 tb ntb, y34, rIk (by decide)]; exact m34
            · obtain ⟨hC, hMM, h7, h9, h14, -, c10, m27, h400, -⟩ := h
              obtain ⟨t1, x1, g1, o1⟩ := (gm_node (n := n) htb hMM m27 h400).2 he
              obtain ⟨t2, x2, g2', o2⟩ := fm_next hn htb g1
              exact ⟨t2, by rw [hm1, x1, yb0_s, fm_code g1, yb0_s, x2]; rfl, g2', frM_T htb (frT_tr o1 o2)⟩
          · by_cases e143 : tkKind U len q = 143
            · -- time
              have hK : s.1 1001 4 = 143 := hCk.trans e143
              have hm1 : f194b n g2 t = yb0 (f195 n t) fun u31 => yb0 (f164 n u31) fun u32 => yb0 (f196 n (4 : Int32) (0 : Int32) u32) fun u33 => some u33 := by
                rw [hm0, if_neg (fun e => e2' (k2.mp e)), nm, yb1_s, zone_0 e1', if_pos rfl, w45, yb1_s, zone_0 (by rw [e143]; decide), if_pos rfl, w46, yb1_s, zone_0 (by rw [e143]; decide), if_pos rfl, w47, yb1_s, zone_1 e143, if_neg (by decide)]
              refine hlit 143 e143 (fun s2 e => ?_) (fun hlt => ?_) (fun he => ?_) (by decide) (by decide)
              · unfold f52b
                rw [hK]
                show (if (143 : Int32) = 40 then _ else _) = _
                rw [if_neg (by decide), if_neg (by decide), if_neg (by decide), if_neg (by decide), if_pos rfl]
                exact e
              · obtain ⟨hC, hMM, h7, h9, h14, -, c10, m27, h400, c11, m31, -, m34, -⟩ := h
                obtain ⟨x1, g1⟩ := (gm_node (n := n) htb hMM m27 h400).1 hlt
                obtain ⟨t2, x2, g2', o2⟩ := gm_next hn htb g1
                obtain ⟨t3, x3, g3, o3, y1, y27, y34, y31⟩ := gm_code (n := n) (c := 4) (v := 0) (cd := cd) htb g2' (by rw [o2.1 tb ntb, rIk (by decide)]; exact m31) (by omega)
                refine ⟨t3, by rw [hm1, x1, yb0_s, x2, yb0_s, x3]; rfl, g3, frM_tr (frM_tr (frM_tb (Or.inl rfl) htb) (frM_T htb o2)) o3, ?_, ?_, y31, ?_⟩
                · rw [y1, o2.2.2.2 14 (by decide) (by decide) (by decide) (by decide) (by decide) (by decide) (by decide), rIo (n_tb htb 0).1]; exact h14
                · rw [y27, o2.1 tb ntb, rIe]
                · rw [y34, o2.1 tb ntb, rIk (by decide)]; exact m34
              · obtain ⟨hC, hMM, h7, h9, h14, -, c10, m27, h400, -⟩ := h
                obtain ⟨t1, x1, g1, o1⟩ := (gm_node (n := n) htb hMM m27 h400).2 he
                obtain ⟨t2, x2, g2', o2⟩ := fm_next hn htb g1
                exact ⟨t2, by rw [hm1, x1, yb0_s, x2, yb0_s, fm_code g2']; rfl, g2', frM_T htb (frT_tr o1 o2)⟩
            · by_cases e142 : tkKind U len q = 142
              · -- size
                have hK : s.1 1001 4 = 142 := hCk.trans e142
                have hql := tk_lt hq (show ¬ tkKind U len q = 3 by rw [e142]; decide)
                obtain ⟨s1, t1, t2, s3, t3, x1, x5, x2, x3, x4, x6, hO⟩ := word_pair (g := g) (g2 := g2) (x := 1) (y := 1) (c := 142) (c2 := 3) hn hb htb hub h (by rw [e142]; decide) hql
                refine ⟨s3, t3, ?_, ?_, hO⟩
                · unfold f52b
                  rw [hK]
                  show (if (142 : Int32) = 40 then _ else _) = _
                  rw [if_neg (by decide), if_neg (by decide), if_neg (by decide), if_neg (by decide), if_neg (by decide), if_pos rfl]
                  unfold f52_151
                  rw [x1, yb0_s, x5, zrd_s (ck6_of hb), if_pos rfl]
                  exact x2
                · rw [hm0, if_neg (fun e => e2' (k2.mp e)), nm, yb1_s, zone_0 e1', if_pos rfl, w45, yb1_s, zone_1 e142, if_neg (by decide)]
                  unfold f194_74
                  rw [w45, yb1_s, zone_1 e142, x3, yb0_s, x4, yb0_s, if_neg (by decide)]
                  unfold f194_100
                  rw [if_neg (by decide)]
                  exact x6
              · by_cases e144 : tkKind U len q = 144
                · -- state
                  have hK : s.1 1001 4 = 144 := hCk.trans e144
                  have hql := tk_lt hq (show ¬ tkKind U len q = 3 by rw [e144]; decide)
                  obtain ⟨s1, t1, t2, s3, t3, x1, x5, x2, x3, x4, x6, hO⟩ := word_pair (g := g) (g2 := g2) (x := 8) (y := 8) (c := 144) (c2 := 5) hn hb htb hub h (by rw [e144]; decide) hql
                  refine ⟨s3, t3, ?_, ?_, hO⟩
                  · unfold f52b
                    rw [hK]
                    show (if (144 : Int32) = 40 then _ else _) = _
                    rw [if_neg (by decide), if_neg (by decide), if_neg (by decide), if_neg (by decide), if_neg (by decide), if_neg (by decide), if_pos rfl]
                    unfold f52_151
                    rw [x1, yb0_s, x5, zrd_s (ck6_of hb), if_neg (by decide)]
                    exact x2
                  · rw [hm0, if_neg (fun e => e2' (k2.mp e)), nm, yb1_s, zone_0 e1', if_pos rfl, w45, yb1_s, zone_0 e142, if_pos rfl, w46, yb1_s, zone_1 e144, if_neg (by decide)]
                    unfold f194_74
                    rw [w45, yb1_s, zone_0 e142, x3, yb0_s, x4, yb0_s, if_pos rfl]
                    unfold f194_100
                    rw [if_pos rfl]
                    exact x6
                · -- nothing of these
                  obtain ⟨s2, x1, g1, o1⟩ := gc_ref (n := n) (f := 2) hb h.1
                  obtain ⟨t2, x2, g2', o2⟩ := gm_cant (n := n) htb h.2.1
                  refine ⟨s2, t2, ?_, ?_, frE_R hb o1, frM_T htb o2, Or.inr ⟨_, q, g1, g2'⟩⟩
                  · unfold f52b
                    show (if s.1 1001 4 = (40 : Int32) then _ else _) = _
                    rw [hCk, if_neg e40, if_neg e45, if_neg e1', if_neg e2', if_neg e143, if_neg e142, if_neg e144, show f32 n 2 s = _ from x1]
                    rfl
                  · rw [hm0, if_neg (fun e => e2' (k2.mp e)), nm, yb1_s, zone_0 e1', if_pos rfl, w45, yb1_s, zone_0 e142, if_pos rfl, w46, yb1_s, zone_0 e144, if_pos rfl, w47, yb1_s, zone_0 e143, if_pos rfl, s45, yb1_s, zone_0 e45, if_pos rfl, s40, yb1_s, zone_0 e40, if_pos rfl, x2]
                    rfl
  · refine ⟨s, ?_, h, frE_rf⟩
    unfold f52b
    show (if s.1 1001 4 = (40 : Int32) then _ else _) = _
    rw [if_neg (fc_k h (by decide)), if_neg (fc_k h (by decide)), if_neg (fc_k h (by decide)), if_neg (fc_k h (by decide)), if_neg (fc_k h (by decide)), if_neg (fc_k h (by decide)), if_neg (fc_k h (by decide)), c_refuse0 (fc_4 h)]
    rfl
  · refine ⟨t, ?_, h, frM_rf⟩
    unfold f194b
    rw [m_goes0 (fm_ne h), yb1_s, if_pos rfl]
theorem factor_pair (hn : 5000 ≤ n) (hb : zck 9 b = true) (htb : zck 12 tb = true) (hub : ub ≤ 900) : ∀ k : Nat, EB U len b tb ub (12 - k) (f52 n (k + 1)) (f194 n (k + 1))
  | 0 => factor_body (g := f52 n 0) (g2 := f194 n 0) hn hb htb hub (fun h => absurd h (by decide))
  | k + 1 => factor_body (g := f52 n (k + 1)) (g2 := f194 n (k + 1)) hn hb htb hub (fun h => EB_mono (by omega) (factor_pair hn hb htb hub k))
/-- whole expressions, as they are called -/
theorem whole_pair (hn : 5000 ≤ n) (hb : zck 9 b = true) (htb : zck 12 tb = true) (hub : ub ≤ 900) : EB U len b tb ub 0 (f49 n (f52 n 20)) (f191 n (f194 n 20)) :=
  expr_pair hn hb htb (sum_pair hn hb htb (term_pair hn hb htb (factor_pair hn hb htb hub 19)))
end ZFC
