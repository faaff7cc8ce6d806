/-! blocks, both readers: the loops -/
section ZQN
variable {U : Nat → Nat} {len x y n K np bl ub q dp nd cd us es na nb q2 dp2 nd2 cd2 us2 r nb0 cd0 mE na2 nb2 na0 er : Nat} {s0 t0 tz s t s2 t2 s3 t3 sS tS : zσ} {G G2 G3 : Nat → Nat → Nat} {gc : Int32 → Int32 → zσ → Option (Int32 × zσ)} {gm : zσ → Option (Int32 × zσ)} {l : List Nat} {kd w0 : Int32} {P : (Nat → Nat → Nat) → Prop}
theorem m_nb (h : ER U len x y s0 t0 K np tz G bl ub q dp nd cd us s t) (e2 : tkKind U len q = 2) : t.1 1132 7 = s.1 1001 6 := by
  obtain ⟨hq, hU, -⟩ := ER_q h
  have hql := tk_lt h (by rw [e2]; decide)
  have hfg : zfgU (U q) = true ∧ tkEnd U len q - q ≤ 9 := by
    rcases tk_cases hU hq with ⟨-, e, -⟩ | ⟨-, e, -⟩ | ⟨-, -, ⟨w, hw, -, e⟩, -⟩ | ⟨-, -, -, e, -⟩ | ⟨-, b1, b2, -, -⟩ | ⟨hlt, -, -, hs, e, -⟩
    · rw [e2] at e; exact absurd e (by decide)
    · rw [e2] at e; exact absurd e (by decide)
    · rw [e2] at e; exfalso; have := (nIe (u := 2) (k := 128 + w) (by decide) (by omega)).mp e; omega
    · rw [e2] at e; exact absurd e (by decide)
    · exact ⟨b1, b2⟩
    · rw [e2] at e; exfalso; have := (nIe (u := 2) (k := U q) (by decide) (hU q hlt)).mp e; have := zsg_b hs (hU q hlt); omega
  exact (h.2.1.2.1.2.2.2.2.2.2.1 hql hfg.1 hfg.2).trans (h.1.2.1.2.2.2.2.2.2.2 hql hfg.1).symm
theorem rea_ok (hQ : HQ n U len x y s0 t0 K tz G ub) (hG : HG K y tz G) (hB : BPP n U len x y s0 t0 K np tz dp gc gm) (h4 : K = 1 → G 4 bl = dp) (h : BI U len x y s0 t0 K np tz G sS tS na0 bl cd0 dp kd w0 (fun _ => True) na l q nd cd us es na nb s t) (hon : tkKind U len q = 138) (H : Hb (fun u => u) K np y tz (yb0 (f164 n t) (f183 n gm (nI bl)))) : Rs (FC len x s0) (FM len y t0) (ZB K y tz) (fun a b => ∃ l2 q2 nd2 cd2 us2 es2 na2 nb2, q + 1 ≤ q2 ∧ BI U len x y s0 t0 K np tz G sS tS na0 bl cd0 dp kd w0 (fun _ => True) na2 l2 q2 nd2 cd2 us2 es2 na2 nb2 a b ∧ (a.1 (x + 32) bl = s.1 (x + 32) bl ∧ b.1 (y + 13) bl = t.1 (y + 13) bl)) (f43 n gc (nI bl) s) (yb0 (f164 n t) (f183 n gm (nI bl))) := by
  obtain ⟨hn, hS, -⟩ := id hQ
  obtain ⟨hB1, hB2, hB3, hB4⟩ := id hB
  have hx := hS.1
  have hy := hS.2.1
  have hR := h.1
  have hE := hR.1
  obtain ⟨hq, hU, hlen⟩ := ER_q hE
  have hw10 := w_len (w := 10) (L := 2) hU hq (by omega) hon zWd_4.2.2.1 (by omega) (by decide) (by decide)
  have hge : tkEnd U len q ≤ tkNx U len q := zsk_ge
  have h6 := hR.2.2.1.2.2
  have a2 := h.2.1.2.1
  unfold f43
  refine er_n hn hS hE H (fun u => b183 hn hy hB4 u) (fun s1 t1 hab hq1 H1 => ?_)
  have hb1 := BI_C hS h hab.1 hab.2 hq1
  have hE1 := hab.2
  have hSC := SC_E hab.1
  have hLC : LC x K na nb cd s s1 := LC_C hx hSC
  have hLM : LM y na nb t t1 := LM_C hy hSC
  have hM1 := hE1.2.1.2
  have w14 : f170 n 14 t1 = some (zone (decide (tkKind U len (tkNx U len q) = 139)), t1) := tm_word (w := 11) hn hM1.1 (by decide) (by decide) (by decide +kernel)
  have k2 := (tm_kind hM1.1).2.1
  have hlf : (tkKind U len (tkNx U len q) = 139 ∨ tkKind U len (tkNx U len q) = 2) → q + 3 ≤ tkNx U len q := fun hk => by
    have := k_lf hU (tkNx_le hq) (by
      rcases hk with e | e
      · exact Or.inr (Or.inr ⟨11, by omega, e⟩)
      · exact Or.inr (Or.inl e))
    rcases hw10.2 with e | e | ⟨e1, e2⟩
    · omega
    · omega
    · rcases this.2 with e | e
      · exact absurd e e1
      · exact absurd e e2
  have hfin : ∀ w : Nat, w < 20 → (tkKind U len (tkNx U len q) = 139 ∨ tkKind U len (tkNx U len q) = 2) → Hb (fun u => u) K np y tz (f183_56 n gm (nI bl) (nI w) t1) → Rs (FC len x s0) (FM len y t0) (ZB K y tz) (fun a b => ∃ l2 q2 nd2 cd2 us2 es2 na2 nb2, q + 1 ≤ q2 ∧ BI U len x y s0 t0 K np tz G sS tS na0 bl cd0 dp kd w0 (fun _ => True) na2 l2 q2 nd2 cd2 us2 es2 na2 nb2 a b ∧ (a.1 (x + 32) bl = s.1 (x + 32) bl ∧ b.1 (y + 13) bl = t.1 (y + 13) bl)) (f43_79 n gc (nI bl) (nI w) s1) (f183_56 n gm (nI bl) (nI w) t1) := fun w hw hk H2 => by
    have hl3 := hlf hk
    have hk0 : ¬ tkKind U len (tkNx U len q) = 0 ∧ ¬ tkKind U len (tkNx U len q) = 3 := by rcases hk with e | e <;> (rw [e]; decide)
    have hql1 := tk_lt hE1 hk0.2
    have hgt1 := tkNx_gt (U := U) hql1
    refine Rs_w (rea_c hQ hG hB hw h4 hb1 hql1 hk0.1 (by omega) H2) (fun a b _ _ hab2 => ?_)
    obtain ⟨l2, q2, nd2, cd2, us2, es2, na2, nb2, c1, c2, c3, c4⟩ := hab2
    refine ⟨l2, q2, nd2, cd2, us2, es2, na2, nb2, by omega, c2, c3.trans ?_, c4.trans ?_⟩
    · exact hLC.2.2.2.2.2.2.1 _ _ (by omega) (by omega) (by omega)
    · exact hLM.2.2.2.2.2.2.2.1 _ (by omega)
  unfold f183 at H1 ⊢
  rw [w14, yb1_s] at H1 ⊢
  rw [ER_k hE1]
  by_cases e139 : tkKind U len (tkNx U len q) = 139
  · rw [zone_1 e139, if_neg n10] at H1 ⊢
    rw [if_pos e139]
    exact hfin 0 (by omega) (Or.inl e139) H1
  · rw [zone_0 e139, if_pos rfl] at H1 ⊢
    rw [if_neg e139]
    unfold f43_25
    rw [if_pos rfl, ER_k hE1]
    by_cases e2 : tkKind U len (tkNx U len q) = 2
    · rw [if_pos (k2.mpr e2)] at H1 ⊢
      rw [if_pos e2]
      have hnb := m_nb hE1 e2
      unfold f43_48 f43_63
      rw [if_pos rfl, if_pos rfl]
      refine Rs_zm ?_
      replace H1 := Hb_z H1
      rw [hnb] at H1 ⊢
      have hk0 : ¬ tkKind U len (tkNx U len q) = 0 := by rw [e2]; decide
      have hbad : Rs (FC len x s0) (FM len y t0) (ZB K y tz) (fun a b => ∃ l2 q2 nd2 cd2 us2 es2 na2 nb2, q + 1 ≤ q2 ∧ BI U len x y s0 t0 K np tz G sS tS na0 bl cd0 dp kd w0 (fun _ => True) na2 l2 q2 nd2 cd2 us2 es2 na2 nb2 a b ∧ (a.1 (x + 32) bl = s.1 (x + 32) bl ∧ b.1 (y + 13) bl = t.1 (y + 13) bl)) (f43_92 n gc s1) (f183_41 n gm t1) := by
        obtain ⟨s2, x1, g1⟩ := er_ref (n := n) (f := 5) hS hE1
        obtain ⟨t2, x2, g2⟩ := er_wrong (n := n) (f := 5) hS (by decide) hE1
        have hz5 : zft U len (tkNx U len q) 5 = 5 := if_neg hk0
        rw [hz5] at g1
        refine Rs_B (f := 5) (z := tkNx U len q) ⟨s2, ?_, g1⟩ ⟨t2, ?_, g2⟩
        · unfold f43_92
          rw [show f32 n 5 s1 = _ from x1]; rfl
        · unfold f183_41
          rw [show f173 n 5 (t1.1 1132 4) t1 = _ from x2]; rfl
      by_cases c1 : s1.1 1001 6 < 1
      · rw [if_pos c1, if_pos c1]; exact hbad
      · rw [if_neg c1] at H1 ⊢
        rw [if_neg c1]
        by_cases c2 : (19 : Int32) < s1.1 1001 6
        · rw [if_pos c2, if_pos c2]; exact hbad
        · rw [if_neg c2] at H1 ⊢
          rw [if_neg c2]
          obtain ⟨w, ew, hw31⟩ := gnI_of (x := s1.1 1001 6) (fun e => c1 (Int32.lt_trans e (by decide)))
          rw [ew] at H1 c2 ⊢
          have hw19 : w < 20 := by
            rcases Nat.lt_or_ge w 20 with e | e
            · exact e
            · exact absurd (nI_lt (a := 19) (by omega) (by omega)) c2
          exact hfin w hw19 (Or.inr e2) H1
    · rw [if_neg (fun e => e2 (k2.mp e))] at H1 ⊢
      rw [if_neg e2]
      obtain ⟨s2, x1, g1⟩ := er_ref (n := n) (f := 2) hS hE1
      obtain ⟨t2, x2, g2⟩ := er_cant (n := n) hS hE1
      exact Rs_B (f := zft U len (tkNx U len q) 2) (z := tkNx U len q) ⟨s2, by rw [show f32 n 2 s1 = _ from x1]; rfl, g1⟩ ⟨t2, by rw [x2]; rfl, g2⟩
/-! behind a fault -/
theorem fc_154 {f z : Nat} (hS : S0 U len x y s0 t0) (hb : bl < 700) (h : FC len x s0 f z s) : fw (fun p => (p.1 = -1 ∨ zin? p.1 700 = true) ∧ FC len x s0 f z p.2) (f40_154 n gc (nI bl) s) := by
  have hx := hS.1
  unfold f40_154
  exact fcs_37 h (by decide) (fcs_I h hx (by omega) (by omega) (by omega) (fun h2 => ⟨_, rfl, Or.inr (zin_nI hb (by decide)), h2⟩))
theorem fc_73 {f z j : Nat} {v i : Int32} (hS : S0 U len x y s0 t0) (hb : bl < 700) (h : FC len x s0 f z s) : fw (fun p => (p.1 = -1 ∨ zin? p.1 700 = true) ∧ FC len x s0 f z p.2) (f40_73 n gc (j + 1) (nI bl) v i s) := by
  unfold f40_73
  exact fw_i (fun _ => fw_i0 (fc_k h (by decide)) (fcs_k h (fw_i1 (by decide) (fc_154 hS hb h)))) (fun _ => fc_154 hS hb h)
theorem fc_35 {f z j : Nat} {i : Int32} (hn : 5000 ≤ n) (hS : S0 U len x y s0 t0) (hb : bl < 700) (h : FC len x s0 f z s) : fw (fun p => (p.1 = -1 ∨ zin? p.1 700 = true) ∧ FC len x s0 f z p.2) (f40_35 n gc (j + 1) (nI bl) i s) := by
  obtain ⟨n, rfl⟩ : ∃ n0, n = n0 + 1 := ⟨n - 1, by omega⟩
  unfold f40_35 f40_67
  exact fw_i (fun _ => fw_i0 (fc_k h (by decide)) (fc_73 hS hb h)) (fun _ => fc_73 hS hb h)
theorem fm_123 {f z j : Nat} {v w : Int32} (hS : S0 U len x y s0 t0) (h : FM len y t0 f z t) : fw (fun p => FM len y t0 f z p.2) (f181_123 n gm (j + 1) y v w t) := by
  have hy := hS.2.1
  unfold f181_123 f181_182
  exact fms_167 h (fw_i1 rfl (fms_179 h (fms_I h hy (by omega) (fun h2 => ⟨_, rfl, h2⟩))))
theorem fm_92 {f z j : Nat} {v : Int32} (hn : 5000 ≤ n) (hS : S0 U len x y s0 t0) (h : FM len y t0 f z t) : fw (fun p => FM len y t0 f z p.2) (f181_92 n gm (j + 1) y v t) := by
  obtain ⟨n, rfl⟩ : ∃ n0, n = n0 + 1 := ⟨n - 1, by omega⟩
  unfold f181_92 f181_121
  exact fms_167 h (fw_i1 rfl (fm_123 hS h))
theorem lb182 (hy : y = 1134 ∨ y = 1170) {a : Int32} (t : zσ) : bk (fun u => u.2) (LR np y tz) (f181_182 n gm a t) t := by
  unfold f181_182
  repeat' (first | (with_reducible exact b195 hy) | (with_reducible exact b164 hy) | (with_reducible exact b196 hy) | (with_reducible exact b182 hy) | (with_reducible exact b179 hy) | (with_reducible exact b172 hy) | (with_reducible exact b173 hy (by decide)) | (with_reducible exact b189 hn hy) | (with_reducible exact b190 hn hy _) | (with_reducible exact b178 hy) | (with_reducible exact bk_none) | (with_reducible exact bk_some LR_rf) | (with_reducible refine bk_ite (fun _ => ?_) (fun _ => ?_)) | (with_reducible refine bk_rdL ?_) | (with_reducible refine bk_zS LR_tr (LR_I ?_ ?_ ?_ ?_) ?_) | (with_reducible refine bk_zS LR_tr (LR_J ?_ ?_) ?_) | (with_reducible refine bk_zV ?_) | (with_reducible refine bk_y0 LR_tr ?_ (fun _ => ?_)) | (with_reducible refine bk_y1 LR_tr ?_ (fun _ _ => ?_)) | (with_reducible exact bk_pu pu_167 _) | (with_reducible exact bk_pu pu_177 _) | (with_reducible refine bk_pu (pu_170 hn ?_) _) | (with_reducible exact bk_pu (pu_175 hn) _) | (omega) | (decide))
theorem lb123 (hn : 5000 ≤ n) (hy : y = 1134 ∨ y = 1170) (hg : ∀ t, bk (fun u => u.2) (LR np y tz) (gm t) t) : ∀ (j : Nat) (a b : Int32) (t : zσ), bk (fun u => u.2) (LR np y tz) (f181_123 n gm j y a b t) t
  | 0, _, _, _ => bk_none
  | j + 1, a, b, t => by
    unfold f181_123 f181_179 f181_176 f181_179
    repeat' (first | (with_reducible exact lb123 hn hy hg j _ _ _) | (with_reducible exact lb182 hy _) | (with_reducible exact b184 hn hy hg _) | (with_reducible exact b195 hy) | (with_reducible exact b164 hy) | (with_reducible exact b196 hy) | (with_reducible exact b182 hy) | (with_reducible exact b179 hy) | (with_reducible exact b172 hy) | (with_reducible exact b173 hy (by decide)) | (with_reducible exact b189 hn hy) | (with_reducible exact b190 hn hy _) | (with_reducible exact b178 hy) | (with_reducible exact bk_none) | (with_reducible exact bk_some LR_rf) | (with_reducible refine bk_ite (fun _ => ?_) (fun _ => ?_)) | (with_reducible refine bk_rdL ?_) | (with_reducible refine bk_zS LR_tr (LR_I ?_ ?_ ?_ ?_) ?_) | (with_reducible refine bk_zS LR_tr (LR_J ?_ ?_) ?_) | (with_reducible refine bk_zV ?_) | (with_reducible refine bk_y0 LR_tr ?_ (fun _ => ?_)) | (with_reducible refine bk_y1 LR_tr ?_ (fun _ _ => ?_)) | (with_reducible exact bk_pu pu_167 _) | (with_reducible exact bk_pu pu_177 _) | (with_reducible refine bk_pu (pu_170 hn ?_) _) | (with_reducible exact bk_pu (pu_175 hn) _) | (omega) | (decide))
theorem lb92 (hn : 5000 ≤ n) (hy : y = 1134 ∨ y = 1170) (hg : ∀ t, bk (fun u => u.2) (LR np y tz) (gm t) t) : ∀ (j : Nat) (a : Int32) (t : zσ), bk (fun u => u.2) (LR np y tz) (f181_92 n gm j y a t) t
  | 0, _, _ => bk_none
  | j + 1, a, t => by
    unfold f181_92 f181_121
    repeat' (first | (with_reducible exact lb92 hn hy hg j _ _) | (with_reducible exact lb123 hn hy hg _ _ _ _) | (with_reducible exact b183 hn hy hg _) | (with_reducible exact b195 hy) | (with_reducible exact b164 hy) | (with_reducible exact b196 hy) | (with_reducible exact b182 hy) | (with_reducible exact b179 hy) | (with_reducible exact b172 hy) | (with_reducible exact b173 hy (by decide)) | (with_reducible exact b189 hn hy) | (with_reducible exact b190 hn hy _) | (with_reducible exact b178 hy) | (with_reducible exact bk_none) | (with_reducible exact bk_some LR_rf) | (with_reducible refine bk_ite (fun _ => ?_) (fun _ => ?_)) | (with_reducible refine bk_rdL ?_) | (with_reducible refine bk_zS LR_tr (LR_I ?_ ?_ ?_ ?_) ?_) | (with_reducible refine bk_zS LR_tr (LR_J ?_ ?_) ?_) | (with_reducible refine bk_zV ?_) | (with_reducible refine bk_y0 LR_tr ?_ (fun _ => ?_)) | (with_reducible refine bk_y1 LR_tr ?_ (fun _ _ => ?_)) | (with_reducible exact bk_pu pu_167 _) | (with_reducible exact bk_pu pu_177 _) | (with_reducible refine bk_pu (pu_170 hn ?_) _) | (with_reducible exact bk_pu (pu_175 hn) _) | (omega) | (decide))
/-- what begins no statement -/
theorem m_184n (hn : 5000 ≤ n) (hS : S0 U len x y s0 t0) (h : ER U len x y s0 t0 K np tz G bl ub q dp nd cd us s t) (h1 : ¬ tkKind U len q = 1) (h2 : ∀ w, 17 ≤ w → w < 47 → ¬ tkKind U len q = nI (128 + w)) : f184 n gm t = yb0 (f172 n t) fun u16 => some ((0 : Int32), u16) := by
  have hy := hS.2.1
  have nm := tm_name hn h.2.1.2.1
  have e185 := (m_185 (n := n) hn h).2 (fun hw a b e => h2 (16 + hw) (by omega) (by omega) (by rw [show 128 + (16 + hw) = 144 + hw by omega]; exact e))
  have e29 : f184_29 n gm y 0 0 t = yb0 (f172 n t) fun u16 => some ((0 : Int32), u16) := by
    unfold f184_29 f184_62 f184_63
    rw [if_pos rfl, nm, yb1_s, zone_0 h1, if_pos rfl, if_pos rfl, if_pos rfl]
  unfold f184
  rw [ER_y hS h, grd (gck12 hy), e185, yb1_s]
  by_cases k3 : t.1 1132 3 = 1
  · rw [if_pos k3, m_186 hn, yb1_s]
    obtain ⟨hq, hU, -⟩ := ER_q h
    have hM := h.2.1.2.1
    have hr : rkKind U len q = 1 := hM.2.2.2.1.symm.trans k3
    have : actF (t.2.1 1132 6) = 0 := by
      rcases tk_cases hU hq with ⟨-, -, r⟩ | ⟨-, -, r⟩ | ⟨hlt, hl, ⟨v, hv, ev, e⟩, -⟩ | ⟨-, -, -, e, -⟩ | ⟨-, -, -, -, r⟩ | ⟨-, -, -, -, -, r⟩
      · rw [hr] at r; exact absurd r (by decide)
      · rw [hr] at r; exact absurd r (by decide)
      · rw [hM.2.2.2.2.2.1 hlt hl, ← ev, actF_w ⟨v, hv⟩]
        have hv17 : v < 17 := by
          rcases Nat.lt_or_ge v 17 with e2 | e2
          · exact e2
          · exact absurd e (h2 v e2 hv)
        show nI (zac v) = 0
        rw [zac_0 ⟨v, hv⟩ (by show v < 21; omega)]; rfl
      · exact absurd e h1
      · rw [hr] at r; exact absurd r (by decide)
      · rw [hr] at r; exact absurd r (by decide)
    rw [this]; exact e29
  · rw [if_neg k3]; exact e29
end ZQN
