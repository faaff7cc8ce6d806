/-! blocks, both readers: the whole -/
section ZQP
variable {U : Nat → Nat} {len x y n K np bl ub q dp nd cd us es na nb q2 dp2 nd2 cd2 us2 r nb0 cd0 mE na2 nb2 na0 er : Nat} {s0 t0 tz s t s2 t2 s3 t3 sS tS : zσ} {G G2 G3 : Nat → Nat → Nat} {gc : Int32 → Int32 → zσ → Option (Int32 × zσ)} {gm : zσ → Option (Int32 × zσ)} {l : List Nat} {kd w0 : Int32} {P : (Nat → Nat → Nat) → Prop}
theorem blk_L2 {q0 dpo : Nat} (hQ : HQ n U len x y s0 t0 K tz G ub) (hG : HG K y tz G) (hB : BPP n U len x y s0 t0 K np tz dp gc gm) (hdp : dp = dpo + 1) (hkd : K = 1 → kd = nI (G 2 bl) ∧ w0 = nI (G 3 bl) ∧ G 4 bl = dp ∧ G 2 bl ≤ 4) : ∀ (m q nd cd us es na nb i j j2 : Nat) (fl : Option (Nat × Nat)) (s t : zσ), len - q ≤ m → BI U len x y s0 t0 K np tz G sS tS na0 bl cd0 dp kd w0 (flP bl fl) (flE na fl) l q nd cd us es na nb s t → FLS x y bl na0 na fl s t → i ≤ q → q0 + 1 ≤ q → m + 1 < j → m + 1 < j2 → Hb (fun u => u.2) K np y tz (f181_123 n gm j2 y (nI bl) (flV fl) t) → Rs (fun f z p => (p.1 = -1 ∨ zin? p.1 700 = true) ∧ FC len x s0 f z p.2) (fun f z p => FM len y t0 f z p.2) (ZB K y tz) (BA U len x y s0 t0 K np tz G q0 dpo na0 bl cd0 sS tS) (f40_73 n gc j (nI bl) (flV fl) (nI i) s) (f181_123 n gm j2 y (nI bl) (flV fl) t) := by
  obtain ⟨hn, hS, -⟩ := id hQ
  obtain ⟨hB1, hB2, hB3, hB4⟩ := id hB
  have hx := hS.1
  have hy := hS.2.1
  intro m
  induction m with
  | zero =>
    intro q nd cd us es na nb i j j2 fl s t hm h hf hi hq0 hj hj2 H
    obtain ⟨j, rfl⟩ : ∃ j0, j = j0 + 2 := ⟨j - 2, by omega⟩
    obtain ⟨j2, rfl⟩ : ∃ j0, j2 = j0 + 2 := ⟨j2 - 2, by omega⟩
    have hR := h.1
    have hE := hR.1
    obtain ⟨hq, hU, hlen⟩ := ER_q hE
    have hb7 : nb ≤ 700 := by
      have := hR.2.2.1.2.2
      have := hE.2.2.2.1.2.2
      omega
    have hbn := h.2.1.2.1
    have hna := hR.2.1.2.2
    have hM := hE.2.1.2
    have s125 : f177 n 125 t = some (zone (decide (tkKind U len q = 125)), t) := tm_sign (c := 125) hM.1 (by decide) (by decide)
    have hzb : zin? (nI bl) 700 = true := zin_nI (by omega) (by decide)
    have hzb2 : zin? (nI bl) 2000 = true := zin_nI (by omega) (by decide)
    have hnb : nx (nI bl) = bl := nx_nI (by omega)
    have hfl : flV fl = -1 ∧ fl = none ∨ ¬ flV fl = -1 ∧ zin? (flV fl) 200 = true ∧ ∃ f e, fl = some (f, e) ∧ e < 200 := by
      cases fl with
      | none => exact Or.inl ⟨rfl, rfl⟩
      | some fe =>
        obtain ⟨f, e⟩ := fe
        obtain ⟨-, -, -, -, -, f6, -⟩ := hf
        exact Or.inr ⟨fun e' => (neqM (show e < 2 ^ 31 by omega)).mp e', zin_nI (show e < 200 by omega) (by decide), f, e, rfl, by omega⟩
    have hem : f181_123 n gm (j2 + 2) y (nI bl) (flV fl) t = if tkKind U len q = 125 then f181_182 n gm (nI bl) t else yb1 (f184 n gm t) fun v6 u5 => yb1 (f167 n u5) fun v8 u7 => if v8 = (0 : Int32) then f181_123 n gm (j2 + 1) y (nI bl) (flV fl) u7 else if flV fl = (-1 : Int32) then zlet (sI u7 (y + 13) bl v6) fun u10 => f181_123 n gm (j2 + 1) y (nI bl) v6 u10 else if zin? (flV fl) 200 = true then zlet (sI u7 (y + 16) (nx (flV fl)) v6) fun u9 => f181_123 n gm (j2 + 1) y (nI bl) v6 u9 else none := by
      rw [f181_123, m_goes hM.2, yb1_s, if_neg n10, s125, yb1_s]
      by_cases e : tkKind U len q = 125
      · rw [zone_1 e, if_neg n10, if_pos e]
      · rw [zone_0 e, if_pos rfl, if_neg e]
        simp only [if_pos hzb2, hnb]
        rfl
    by_cases e125 : tkKind U len q = 125
    · -- the end
      have hql := tk_lt hE (by rw [e125]; decide)
      have ec : f40_73 n gc (j + 2) (nI bl) (flV fl) (nI i) s = f40_154 n gc (nI bl) s := by
        rw [f40_73, if_pos (show nI i < 4000 from nI_lt (b := 4000) (by omega) (by decide)), ER_k hE, e125, if_neg (by decide), if_pos (by decide)]
      rw [hem, if_pos e125] at H
      rw [hem, if_pos e125, ec]
      unfold f181_182 at H ⊢
      unfold f40_154
      refine st00 H (ER_y hS hE) (b179 hy) (fun u => ?_) (er_want (c := 125) hn hS (by decide) (by decide) hE) (fun f z a hF => ?_) (fun f z b hM => ?_) (fun s1 t1 hA H1 => ?_)
      · repeat' (first | (with_reducible exact b195 hy) | (with_reducible exact b164 hy) | (with_reducible exact b196 hy) | (with_reducible exact b182 hy) | (with_reducible exact b179 hy) | (with_reducible exact b172 hy) | (with_reducible exact b173 hy (by decide)) | (with_reducible exact b189 hn hy) | (with_reducible exact b190 hn hy _) | (with_reducible exact b178 hy) | (with_reducible exact bk_none) | (with_reducible exact bk_some LR_rf) | (with_reducible refine bk_ite (fun _ => ?_) (fun _ => ?_)) | (with_reducible refine bk_rdL ?_) | (with_reducible refine bk_zS LR_tr (LR_I ?_ ?_ ?_ ?_) ?_) | (with_reducible refine bk_zS LR_tr (LR_J ?_ ?_) ?_) | (with_reducible refine bk_zV ?_) | (with_reducible refine bk_y0 LR_tr ?_ (fun _ => ?_)) | (with_reducible refine bk_y1 LR_tr ?_ (fun _ _ => ?_)) | (with_reducible exact bk_pu pu_167 _) | (with_reducible exact bk_pu pu_177 _) | (with_reducible refine bk_pu (pu_170 hn ?_) _) | (with_reducible exact bk_pu (pu_175 hn) _) | (omega) | (decide))
      · exact fcs_I hF hx (by omega) (by omega) (by omega) (fun h2 => ⟨_, rfl, Or.inr hzb, h2⟩)
      · exact fms_I hM hy (by omega) (fun h2 => ⟨_, rfl, h2⟩)
      obtain ⟨⟨hql1, -⟩, hC1, hE1⟩ := hA
      rw [hdp] at hE1
      obtain ⟨hC2, hE2⟩ := er_close hS hE1
      have hgt := tkNx_gt (U := U) hql1
      exact Rs_A rfl rfl (BI_end hS hdp hkd h hf ⟨hq0, hgt⟩ (EC_tr hC1 hC2 (Nat.le_refl _) (Nat.le_refl _)) hE2)
    · rw [hem, if_neg e125] at H
      rw [hem, if_neg e125]
      by_cases hst : tkKind U len q = 1 ∨ ∃ w, 17 ≤ w ∧ w < 47 ∧ tkKind U len q = nI (128 + w)
      · -- a statement
        have hk3 : ¬ tkKind U len q = 3 := by
          rcases hst with e | ⟨w, h1, h2, e⟩
          · rw [e]; decide
          · rw [e]; exact fun e => by have := (nIe (u := 128 + w) (k := 3) (by omega) (by decide)).mp e; omega
        have hql := tk_lt hE hk3
        have ec : f40_73 n gc (j + 2) (nI bl) (flV fl) (nI i) s = yb1 (f46 n gc (nI bl) s) fun v2 u1 => if flV fl = (-1 : Int32) then zrd 0 (u1.2.2 1004 6) fun a5 => zlet (sI u1 (a5 + 3) bl v2) fun u6 => f40_73 n gc (j + 1) (nI bl) v2 (nI (i + 1)) u6 else zrd 6 (u1.2.2 1004 5) fun a3 => if zin? (flV fl) 200 = true then zlet (sI u1 (a3 + 6) (nx (flV fl)) v2) fun u4 => f40_73 n gc (j + 1) (nI bl) v2 (nI (i + 1)) u4 else none := by
          have e105 : f40_73 n gc (j + 2) (nI bl) (flV fl) (nI i) s = f40_105 n gc (f40_73 n gc (j + 1)) (nI bl) (flV fl) (nI i) s := by
            rw [f40_73, if_pos (show nI i < 4000 from nI_lt (b := 4000) (by omega) (by decide)), ER_k hE]
            rcases hst with e | ⟨w, h1, h2, e⟩
            · rw [if_pos e]
            · rw [e, if_neg (fun e => by have := (nIe (u := 128 + w) (k := 1) (by omega) (by decide)).mp e; omega), if_neg (show ¬ nI (128 + w) < 145 from nI_nlt (b := 145) (by omega) (by omega))]
          rw [e105, ← nI_1]
          unfold f40_105
          simp only [if_pos hzb, hnb]
          rfl
        rw [ec]
        refine st11 H (ER_y hS hE) (b184 hn hy hB4 t) (fun v u => ?_) (stat_ok (gc := gc) hQ hG hB (by omega) (fun hK => (hkd hK).2.2.1) hR hst) (fun f z v a hF => ?_) (fun f z v b hM => ?_) (fun v1 s1 w1 t1 hA H1 => ?_)
        · repeat' (first | (with_reducible exact lb123 hn hy hB4 _ _ _ _) | (with_reducible exact b195 hy) | (with_reducible exact b164 hy) | (with_reducible exact b196 hy) | (with_reducible exact b182 hy) | (with_reducible exact b179 hy) | (with_reducible exact b172 hy) | (with_reducible exact b173 hy (by decide)) | (with_reducible exact b189 hn hy) | (with_reducible exact b190 hn hy _) | (with_reducible exact b178 hy) | (with_reducible exact bk_none) | (with_reducible exact bk_some LR_rf) | (with_reducible refine bk_ite (fun _ => ?_) (fun _ => ?_)) | (with_reducible refine bk_rdL ?_) | (with_reducible refine bk_zS LR_tr (LR_I ?_ ?_ ?_ ?_) ?_) | (with_reducible refine bk_zS LR_tr (LR_J ?_ ?_) ?_) | (with_reducible refine bk_zV ?_) | (with_reducible refine bk_y0 LR_tr ?_ (fun _ => ?_)) | (with_reducible refine bk_y1 LR_tr ?_ (fun _ _ => ?_)) | (with_reducible exact bk_pu pu_167 _) | (with_reducible exact bk_pu pu_177 _) | (with_reducible refine bk_pu (pu_170 hn ?_) _) | (with_reducible exact bk_pu (pu_175 hn) _) | (omega) | (decide))
        · have hF : FC len x s0 f z a := hF
          refine fw_i (fun _ => fcs_r6 hS hF (fcs_I hF hx (by omega) (by omega) (by omega) (fun h2 => fc_73 hS (by omega) h2))) (fun hne => fcs_r5 hS hF ?_)
          rcases hfl with ⟨e, -⟩ | ⟨-, e, -⟩
          · exact absurd e hne
          · exact fw_i1 e (fcs_I hF hx (by omega) (by omega) (by omega) (fun h2 => fc_73 hS (by omega) h2))
        · have hM2 : FM len y t0 f z b := hM
          exact fms_167 hM2 (fw_i1 rfl (fm_123 hS hM2))
        have ev : v1 = nI na := hA.1.1
        have ew : w1 = nI na := hA.1.2
        subst ev
        subst ew
        have hR1 : ∃ q2 nd2 cd2 us2 es2 na2 nb2, SR U len x y s0 t0 K np tz G bl (4 * na2) q2 dp nd2 cd2 us2 es2 na2 nb2 s1 t1 := by
          obtain ⟨-, q2, nd2, cd2, us2, es2, na2, nb2, -, h2, -⟩ := id hA
          exact ⟨q2, nd2, cd2, us2, es2, na2, nb2, h2⟩
        obtain ⟨q9, nd9, cd9, us9, es9, na9, nb9, hR9⟩ := hR1
        rw [m_goes hR9.1.2.1.2.2, yb1_s, if_neg n10] at H1 ⊢
        obtain ⟨fl2, q2, nd2, cd2, us2, es2, na2, nb2, c1, c2, c3, c4⟩ := BI_st hS h hf hA
        rcases hfl with ⟨e1, rfl⟩ | ⟨e1, e2, f, e, rfl, he⟩
        · rw [if_pos e1] at H1 ⊢
          rw [if_pos e1, (BC_rf hS hR9.1.1.1).2.2.1, grd (gck9 hx).2.2]
          refine Rs_zc (Rs_zm ?_)
          replace H1 := Hb_z H1
          exfalso; omega
        · rw [if_neg e1, if_pos e2] at H1 ⊢
          rw [if_neg e1]
          have ne : nx (flV (some (f, e))) = e := nx_nI (show e < 2 ^ 31 by omega)
          rw [ne] at H1 ⊢
          rw [ER_5 hS hR9.1, grd (gck9 hx).2.1, if_pos e2]
          refine Rs_zc (Rs_zm ?_)
          replace H1 := Hb_z H1
          exfalso; omega
      · -- nothing that belongs here
        have h1 : ¬ tkKind U len q = 1 := fun e => hst (Or.inl e)
        have h2 : ∀ w, 17 ≤ w → w < 47 → ¬ tkKind U len q = nI (128 + w) := fun w a b e => hst (Or.inr ⟨w, a, b, e⟩)
        obtain ⟨t2, x2, g2⟩ := er_cant (n := n) hS hE
        obtain ⟨s2, x1, g1⟩ := er_ref (n := n) (f := 2) hS hE
        have h145 : s.1 1001 4 < 145 := by
          rw [ER_k hE]
          rcases tk_cases hU hq with ⟨-, e, -⟩ | ⟨-, e, -⟩ | ⟨-, -, ⟨w, hw, -, e⟩, -⟩ | ⟨-, -, -, e, -⟩ | ⟨-, -, -, e, -⟩ | ⟨hlt, -, -, hs, e, -⟩
          · rw [e]; decide
          · rw [e]; decide
          · have : w < 17 := by
              rcases Nat.lt_or_ge w 17 with e2 | e2
              · exact e2
              · exact absurd e (h2 w e2 hw)
            rw [e]; exact nI_lt (b := 145) (by omega) (by omega)
          · rw [e]; decide
          · rw [e]; decide
          · have := zsg_b hs (hU q hlt)
            rw [e]; exact nI_lt (b := 145) (by omega) (by omega)
        have ec : f40_73 n gc (j + 2) (nI bl) (flV fl) (nI i) s = f40_154 n gc (nI bl) s := by
          rw [f40_73]
          have e1' : ¬ s.1 1001 4 = 1 := by rw [ER_k hE]; exact h1
          rw [if_neg e1', if_pos h145, ite_self]
        rw [ec]
        refine Rs_B (f := zft U len q 2) (z := q) ?_ ?_
        · unfold f40_154
          have e37 : f37 n 125 s = some s2 := by
            unfold f37
            rw [ER_k hE, if_neg e125, show f32 n 2 s = _ from x1]; rfl
          rw [e37, yb0_s]
          exact fcs_I g1 hx (by omega) (by omega) (by omega) (fun h2 => ⟨_, rfl, Or.inr hzb, h2⟩)
        · rw [m_184n hn hS hE h1 h2, x2, yb0_s, yb1_s]
          exact fms_167 g2 (fw_i1 rfl (fm_123 hS g2))
  | succ m ih =>
    intro q nd cd us es na nb i j j2 fl s t hm h hf hi hq0 hj hj2 H
    obtain ⟨j, rfl⟩ : ∃ j0, j = j0 + 2 := ⟨j - 2, by omega⟩
    obtain ⟨j2, rfl⟩ : ∃ j0, j2 = j0 + 2 := ⟨j2 - 2, by omega⟩
    have hR := h.1
    have hE := hR.1
    obtain ⟨hq, hU, hlen⟩ := ER_q hE
    have hb7 : nb ≤ 700 := by
      have := hR.2.2.1.2.2
      have := hE.2.2.2.1.2.2
      omega
    have hbn := h.2.1.2.1
    have hna := hR.2.1.2.2
    have hM := hE.2.1.2
    have s125 : f177 n 125 t = some (zone (decide (tkKind U len q = 125)), t) := tm_sign (c := 125) hM.1 (by decide) (by decide)
    have hzb : zin? (nI bl) 700 = true := zin_nI (by omega) (by decide)
    have hzb2 : zin? (nI bl) 2000 = true := zin_nI (by omega) (by decide)
    have hnb : nx (nI bl) = bl := nx_nI (by omega)
    have hfl : flV fl = -1 ∧ fl = none ∨ ¬ flV fl = -1 ∧ zin? (flV fl) 200 = true ∧ ∃ f e, fl = some (f, e) ∧ e < 200 := by
      cases fl with
      | none => exact Or.inl ⟨rfl, rfl⟩
      | some fe =>
        obtain ⟨f, e⟩ := fe
        obtain ⟨-, -, -, -, -, f6, -⟩ := hf
        exact Or.inr ⟨fun e' => (neqM (show e < 2 ^ 31 by omega)).mp e', zin_nI (show e < 200 by omega) (by decide), f, e, rfl, by omega⟩
    have hem : f181_123 n gm (j2 + 2) y (nI bl) (flV fl) t = if tkKind U len q = 125 then f181_182 n gm (nI bl) t else yb1 (f184 n gm t) fun v6 u5 => yb1 (f167 n u5) fun v8 u7 => if v8 = (0 : Int32) then f181_123 n gm (j2 + 1) y (nI bl) (flV fl) u7 else if flV fl = (-1 : Int32) then zlet (sI u7 (y + 13) bl v6) fun u10 => f181_123 n gm (j2 + 1) y (nI bl) v6 u10 else if zin? (flV fl) 200 = true then zlet (sI u7 (y + 16) (nx (flV fl)) v6) fun u9 => f181_123 n gm (j2 + 1) y (nI bl) v6 u9 else none := by
      rw [f181_123, m_goes hM.2, yb1_s, if_neg n10, s125, yb1_s]
      by_cases e : tkKind U len q = 125
      · rw [zone_1 e, if_neg n10, if_pos e]
      · rw [zone_0 e, if_pos rfl, if_neg e]
        simp only [if_pos hzb2, hnb]
        rfl
    by_cases e125 : tkKind U len q = 125
    · -- the end
      have hql := tk_lt hE (by rw [e125]; decide)
      have ec : f40_73 n gc (j + 2) (nI bl) (flV fl) (nI i) s = f40_154 n gc (nI bl) s := by
        rw [f40_73, if_pos (show nI i < 4000 from nI_lt (b := 4000) (by omega) (by decide)), ER_k hE, e125, if_neg (by decide), if_pos (by decide)]
      rw [hem, if_pos e125] at H
      rw [hem, if_pos e125, ec]
      unfold f181_182 at H ⊢
      unfold f40_154
      refine st00 H (ER_y hS hE) (b179 hy) (fun u => ?_) (er_want (c := 125) hn hS (by decide) (by decide) hE) (fun f z a hF => ?_) (fun f z b hM => ?_) (fun s1 t1 hA H1 => ?_)
      · repeat' (first | (with_reducible exact b195 hy) | (with_reducible exact b164 hy) | (with_reducible exact b196 hy) | (with_reducible exact b182 hy) | (with_reducible exact b179 hy) | (with_reducible exact b172 hy) | (with_reducible exact b173 hy (by decide)) | (with_reducible exact b189 hn hy) | (with_reducible exact b190 hn hy _) | (with_reducible exact b178 hy) | (with_reducible exact bk_none) | (with_reducible exact bk_some LR_rf) | (with_reducible refine bk_ite (fun _ => ?_) (fun _ => ?_)) | (with_reducible refine bk_rdL ?_) | (with_reducible refine bk_zS LR_tr (LR_I ?_ ?_ ?_ ?_) ?_) | (with_reducible refine bk_zS LR_tr (LR_J ?_ ?_) ?_) | (with_reducible refine bk_zV ?_) | (with_reducible refine bk_y0 LR_tr ?_ (fun _ => ?_)) | (with_reducible refine bk_y1 LR_tr ?_ (fun _ _ => ?_)) | (with_reducible exact bk_pu pu_167 _) | (with_reducible exact bk_pu pu_177 _) | (with_reducible refine bk_pu (pu_170 hn ?_) _) | (with_reducible exact bk_pu (pu_175 hn) _) | (omega) | (decide))
      · exact fcs_I hF hx (by omega) (by omega) (by omega) (fun h2 => ⟨_, rfl, Or.inr hzb, h2⟩)
      · exact fms_I hM hy (by omega) (fun h2 => ⟨_, rfl, h2⟩)
      obtain ⟨⟨hql1, -⟩, hC1, hE1⟩ := hA
      rw [hdp] at hE1
      obtain ⟨hC2, hE2⟩ := er_close hS hE1
      have hgt := tkNx_gt (U := U) hql1
      exact Rs_A rfl rfl (BI_end hS hdp hkd h hf ⟨hq0, hgt⟩ (EC_tr hC1 hC2 (Nat.le_refl _) (Nat.le_refl _)) hE2)
    · rw [hem, if_neg e125] at H
      rw [hem, if_neg e125]
      by_cases hst : tkKind U len q = 1 ∨ ∃ w, 17 ≤ w ∧ w < 47 ∧ tkKind U len q = nI (128 + w)
      · -- a statement
        have hk3 : ¬ tkKind U len q = 3 := by
          rcases hst with e | ⟨w, h1, h2, e⟩
          · rw [e]; decide
          · rw [e]; exact fun e => by have := (nIe (u := 128 + w) (k := 3) (by omega) (by decide)).mp e; omega
        have hql := tk_lt hE hk3
        have ec : f40_73 n gc (j + 2) (nI bl) (flV fl) (nI i) s = yb1 (f46 n gc (nI bl) s) fun v2 u1 => if flV fl = (-1 : Int32) then zrd 0 (u1.2.2 1004 6) fun a5 => zlet (sI u1 (a5 + 3) bl v2) fun u6 => f40_73 n gc (j + 1) (nI bl) v2 (nI (i + 1)) u6 else zrd 6 (u1.2.2 1004 5) fun a3 => if zin? (flV fl) 200 = true then zlet (sI u1 (a3 + 6) (nx (flV fl)) v2) fun u4 => f40_73 n gc (j + 1) (nI bl) v2 (nI (i + 1)) u4 else none := by
          have e105 : f40_73 n gc (j + 2) (nI bl) (flV fl) (nI i) s = f40_105 n gc (f40_73 n gc (j + 1)) (nI bl) (flV fl) (nI i) s := by
            rw [f40_73, if_pos (show nI i < 4000 from nI_lt (b := 4000) (by omega) (by decide)), ER_k hE]
            rcases hst with e | ⟨w, h1, h2, e⟩
            · rw [if_pos e]
            · rw [e, if_neg (fun e => by have := (nIe (u := 128 + w) (k := 1) (by omega) (by decide)).mp e; omega), if_neg (show ¬ nI (128 + w) < 145 from nI_nlt (b := 145) (by omega) (by omega))]
          rw [e105, ← nI_1]
          unfold f40_105
          simp only [if_pos hzb, hnb]
          rfl
        rw [ec]
        refine st11 H (ER_y hS hE) (b184 hn hy hB4 t) (fun v u => ?_) (stat_ok (gc := gc) hQ hG hB (by omega) (fun hK => (hkd hK).2.2.1) hR hst) (fun f z v a hF => ?_) (fun f z v b hM => ?_) (fun v1 s1 w1 t1 hA H1 => ?_)
        · repeat' (first | (with_reducible exact lb123 hn hy hB4 _ _ _ _) | (with_reducible exact b195 hy) | (with_reducible exact b164 hy) | (with_reducible exact b196 hy) | (with_reducible exact b182 hy) | (with_reducible exact b179 hy) | (with_reducible exact b172 hy) | (with_reducible exact b173 hy (by decide)) | (with_reducible exact b189 hn hy) | (with_reducible exact b190 hn hy _) | (with_reducible exact b178 hy) | (with_reducible exact bk_none) | (with_reducible exact bk_some LR_rf) | (with_reducible refine bk_ite (fun _ => ?_) (fun _ => ?_)) | (with_reducible refine bk_rdL ?_) | (with_reducible refine bk_zS LR_tr (LR_I ?_ ?_ ?_ ?_) ?_) | (with_reducible refine bk_zS LR_tr (LR_J ?_ ?_) ?_) | (with_reducible refine bk_zV ?_) | (with_reducible refine bk_y0 LR_tr ?_ (fun _ => ?_)) | (with_reducible refine bk_y1 LR_tr ?_ (fun _ _ => ?_)) | (with_reducible exact bk_pu pu_167 _) | (with_reducible exact bk_pu pu_177 _) | (with_reducible refine bk_pu (pu_170 hn ?_) _) | (with_reducible exact bk_pu (pu_175 hn) _) | (omega) | (decide))
        · have hF : FC len x s0 f z a := hF
          refine fw_i (fun _ => fcs_r6 hS hF (fcs_I hF hx (by omega) (by omega) (by omega) (fun h2 => fc_73 hS (by omega) h2))) (fun hne => fcs_r5 hS hF ?_)
          rcases hfl with ⟨e, -⟩ | ⟨-, e, -⟩
          · exact absurd e hne
          · exact fw_i1 e (fcs_I hF hx (by omega) (by omega) (by omega) (fun h2 => fc_73 hS (by omega) h2))
        · have hM2 : FM len y t0 f z b := hM
          exact fms_167 hM2 (fw_i1 rfl (fm_123 hS hM2))
        have ev : v1 = nI na := hA.1.1
        have ew : w1 = nI na := hA.1.2
        subst ev
        subst ew
        have hR1 : ∃ q2 nd2 cd2 us2 es2 na2 nb2, SR U len x y s0 t0 K np tz G bl (4 * na2) q2 dp nd2 cd2 us2 es2 na2 nb2 s1 t1 := by
          obtain ⟨-, q2, nd2, cd2, us2, es2, na2, nb2, -, h2, -⟩ := id hA
          exact ⟨q2, nd2, cd2, us2, es2, na2, nb2, h2⟩
        obtain ⟨q9, nd9, cd9, us9, es9, na9, nb9, hR9⟩ := hR1
        rw [m_goes hR9.1.2.1.2.2, yb1_s, if_neg n10] at H1 ⊢
        obtain ⟨fl2, q2, nd2, cd2, us2, es2, na2, nb2, c1, c2, c3, c4⟩ := BI_st hS h hf hA
        rcases hfl with ⟨e1, rfl⟩ | ⟨e1, e2, f, e, rfl, he⟩
        · rw [if_pos e1] at H1 ⊢
          rw [if_pos e1, (BC_rf hS hR9.1.1.1).2.2.1, grd (gck9 hx).2.2]
          refine Rs_zc (Rs_zm ?_)
          replace H1 := Hb_z H1
          have hih := ih q2 nd2 cd2 us2 es2 na2 nb2 (i + 1) (j + 1) (j2 + 1) fl2 (sI s1 (x + 32) bl (nI na)) (sI t1 (y + 13) bl (nI na)) (by omega) c3 c4 (by omega) (by omega) (by omega) (by omega) (by rw [c2]; exact H1)
          rw [c2] at hih
          exact hih
        · rw [if_neg e1, if_pos e2] at H1 ⊢
          rw [if_neg e1]
          have ne : nx (flV (some (f, e))) = e := nx_nI (show e < 2 ^ 31 by omega)
          rw [ne] at H1 ⊢
          rw [ER_5 hS hR9.1, grd (gck9 hx).2.1, if_pos e2]
          refine Rs_zc (Rs_zm ?_)
          replace H1 := Hb_z H1
          have hih := ih q2 nd2 cd2 us2 es2 na2 nb2 (i + 1) (j + 1) (j2 + 1) fl2 (sI s1 (x + 25) e (nI na)) (sI t1 (y + 16) e (nI na)) (by omega) c3 c4 (by omega) (by omega) (by omega) (by omega) (by rw [c2]; exact H1)
          rw [c2] at hih
          exact hih
      · -- nothing that belongs here
        have h1 : ¬ tkKind U len q = 1 := fun e => hst (Or.inl e)
        have h2 : ∀ w, 17 ≤ w → w < 47 → ¬ tkKind U len q = nI (128 + w) := fun w a b e => hst (Or.inr ⟨w, a, b, e⟩)
        obtain ⟨t2, x2, g2⟩ := er_cant (n := n) hS hE
        obtain ⟨s2, x1, g1⟩ := er_ref (n := n) (f := 2) hS hE
        have h145 : s.1 1001 4 < 145 := by
          rw [ER_k hE]
          rcases tk_cases hU hq with ⟨-, e, -⟩ | ⟨-, e, -⟩ | ⟨-, -, ⟨w, hw, -, e⟩, -⟩ | ⟨-, -, -, e, -⟩ | ⟨-, -, -, e, -⟩ | ⟨hlt, -, -, hs, e, -⟩
          · rw [e]; decide
          · rw [e]; decide
          · have : w < 17 := by
              rcases Nat.lt_or_ge w 17 with e2 | e2
              · exact e2
              · exact absurd e (h2 w e2 hw)
            rw [e]; exact nI_lt (b := 145) (by omega) (by omega)
          · rw [e]; decide
          · rw [e]; decide
          · have := zsg_b hs (hU q hlt)
            rw [e]; exact nI_lt (b := 145) (by omega) (by omega)
        have ec : f40_73 n gc (j + 2) (nI bl) (flV fl) (nI i) s = f40_154 n gc (nI bl) s := by
          rw [f40_73]
          have e1' : ¬ s.1 1001 4 = 1 := by rw [ER_k hE]; exact h1
          rw [if_neg e1', if_pos h145, ite_self]
        rw [ec]
        refine Rs_B (f := zft U len q 2) (z := q) ?_ ?_
        · unfold f40_154
          have e37 : f37 n 125 s = some s2 := by
            unfold f37
            rw [ER_k hE, if_neg e125, show f32 n 2 s = _ from x1]; rfl
          rw [e37, yb0_s]
          exact fcs_I g1 hx (by omega) (by omega) (by omega) (fun h2 => ⟨_, rfl, Or.inr hzb, h2⟩)
        · rw [m_184n hn hS hE h1 h2, x2, yb0_s, yb1_s]
          exact fms_167 g2 (fw_i1 rfl (fm_123 hS g2))
/-- the reactions, then the statements -/
theorem blk_L1 {q0 dpo : Nat} (hQ : HQ n U len x y s0 t0 K tz G ub) (hG : HG K y tz G) (hB : BPP n U len x y s0 t0 K np tz dp gc gm) (hdp : dp = dpo + 1) (hkd : K = 1 → kd = nI (G 2 bl) ∧ w0 = nI (G 3 bl) ∧ G 4 bl = dp ∧ G 2 bl ≤ 4) : ∀ (m q nd cd us es na nb i j j2 : Nat) (l : List Nat) (s t : zσ), len - q ≤ m → BI U len x y s0 t0 K np tz G sS tS na0 bl cd0 dp kd w0 (fun _ => True) na l q nd cd us es na nb s t → (s.1 (x + 32) bl = -1 ∧ t.1 (y + 13) bl = -1) → i ≤ q → q0 + 1 ≤ q → m + 1 < j → m + 1 < j2 → Hb (fun u => u.2) K np y tz (f181_92 n gm j2 y (nI bl) t) → Rs (fun f z p => (p.1 = -1 ∨ zin? p.1 700 = true) ∧ FC len x s0 f z p.2) (fun f z p => FM len y t0 f z p.2) (ZB K y tz) (BA U len x y s0 t0 K np tz G q0 dpo na0 bl cd0 sS tS) (f40_35 n gc j (nI bl) (nI i) s) (f181_92 n gm j2 y (nI bl) t) := by
  obtain ⟨hn, hS, -⟩ := id hQ
  obtain ⟨hB1, hB2, hB3, hB4⟩ := id hB
  have hx := hS.1
  have hy := hS.2.1
  intro m
  induction m with
  | zero =>
    intro q nd cd us es na nb i j j2 l s t hm h hf hi hq0 hj hj2 H
    obtain ⟨j, rfl⟩ : ∃ j0, j = j0 + 2 := ⟨j - 2, by omega⟩
    obtain ⟨j2, rfl⟩ : ∃ j0, j2 = j0 + 2 := ⟨j2 - 2, by omega⟩
    have hR := h.1
    have hE := hR.1
    obtain ⟨hq, hU, hlen⟩ := ER_q hE
    have hb7 : nb ≤ 700 := by
      have := hR.2.2.1.2.2
      have := hE.2.2.2.1.2.2
      omega
    have hbn := h.2.1.2.1
    have hM := hE.2.1.2
    have w13 : f170 n 13 t = some (zone (decide (tkKind U len q = 138)), t) := tm_word (w := 10) hn hM.1 (by decide) (by decide) (by decide +kernel)
    by_cases e138 : tkKind U len q = 138
    · exfalso
      have := tk_lt hE (by rw [e138]; decide)
      omega
    · have em : f181_92 n gm (j2 + 2) y (nI bl) t = f181_123 n gm n y (nI bl) (-1) t := by
        rw [f181_92, m_goes hM.2, yb1_s, if_neg n10, w13, yb1_s, zone_0 e138, if_pos rfl]; rfl
      have ec : f40_35 n gc (j + 2) (nI bl) (nI i) s = f40_73 n gc n (nI bl) (-1) 0 s := by
        rw [f40_35, ER_k hE, if_neg e138, ite_self]; rfl
      rw [em] at H ⊢
      rw [ec]
      exact blk_L2 hQ hG hB hdp hkd (len - q) q nd cd us es na nb 0 n n none s t (Nat.le_refl _) h hf (Nat.zero_le _) hq0 (by omega) (by omega) H
  | succ m ih =>
    intro q nd cd us es na nb i j j2 l s t hm h hf hi hq0 hj hj2 H
    obtain ⟨j, rfl⟩ : ∃ j0, j = j0 + 2 := ⟨j - 2, by omega⟩
    obtain ⟨j2, rfl⟩ : ∃ j0, j2 = j0 + 2 := ⟨j2 - 2, by omega⟩
    have hR := h.1
    have hE := hR.1
    obtain ⟨hq, hU, hlen⟩ := ER_q hE
    have hb7 : nb ≤ 700 := by
      have := hR.2.2.1.2.2
      have := hE.2.2.2.1.2.2
      omega
    have hbn := h.2.1.2.1
    have hM := hE.2.1.2
    have w13 : f170 n 13 t = some (zone (decide (tkKind U len q = 138)), t) := tm_word (w := 10) hn hM.1 (by decide) (by decide) (by decide +kernel)
    by_cases e138 : tkKind U len q = 138
    · have hql := tk_lt hE (by rw [e138]; decide)
      have em : f181_92 n gm (j2 + 2) y (nI bl) t = yb0 (yb0 (f164 n t) (f183 n gm (nI bl))) (f181_92 n gm (j2 + 1) y (nI bl)) := by
        rw [f181_92, m_goes hM.2, yb1_s, if_neg n10, w13, yb1_s, zone_1 e138, if_neg n10, ← y00]
      have ec : f40_35 n gc (j + 2) (nI bl) (nI i) s = yb0 (f43 n gc (nI bl) s) fun u1 => f40_35 n gc (j + 1) (nI bl) (nI (i + 1)) u1 := by
        rw [f40_35, if_pos (show nI i < 4000 from nI_lt (b := 4000) (by omega) (by decide)), ER_k hE, if_pos e138, ← nI_1]
      rw [em] at H ⊢
      rw [ec]
      refine st00 H (ER_y hS hE) (bk_y0 LR_tr (b164 hy) (fun u => b183 hn hy hB4 u)) (fun u => lb92 hn hy hB4 _ _ _) (rea_ok hQ hG hB (fun hK => (hkd hK).2.2.1) h e138) (fun f z a hF => fc_35 hn hS (by omega) hF) (fun f z b hM => fm_92 hn hS hM) (fun s1 t1 hA H1 => ?_)
      obtain ⟨l2, q2, nd2, cd2, us2, es2, na2, nb2, c1, c2, c3, c4⟩ := hA
      exact ih q2 nd2 cd2 us2 es2 na2 nb2 (i + 1) (j + 1) (j2 + 1) l2 s1 t1 (by omega) c2 ⟨c3.trans hf.1, c4.trans hf.2⟩ (by omega) (by omega) (by omega) (by omega) H1
    · have em : f181_92 n gm (j2 + 2) y (nI bl) t = f181_123 n gm n y (nI bl) (-1) t := by
        rw [f181_92, m_goes hM.2, yb1_s, if_neg n10, w13, yb1_s, zone_0 e138, if_pos rfl]; rfl
      have ec : f40_35 n gc (j + 2) (nI bl) (nI i) s = f40_73 n gc n (nI bl) (-1) 0 s := by
        rw [f40_35, ER_k hE, if_neg e138, ite_self]; rfl
      rw [em] at H ⊢
      rw [ec]
      exact blk_L2 hQ hG hB hdp hkd (len - q) q nd cd us es na nb 0 n n none s t (Nat.le_refl _) h hf (Nat.zero_le _) hq0 (by omega) (by omega) H
end ZQP
