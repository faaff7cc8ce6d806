/-! expressions, both readers: names, numbers, factors -/
section ZPS
variable {U : Nat → Nat} {len x y n K np bl ub q dp nd cd us q2 dp2 nd2 cd2 us2 : Nat} {s0 t0 tz s t s2 t2 : zσ} {G : Nat → Nat → Nat}
theorem tC_k {p k : Nat} (hQ : HQ n U len x y s0 t0 K tz G ub) (hk : k < 9) (h : tz.1 (y + 27) p = nI k) : G 13 p = k ∧ (tzMp tz y).1 (y + 27) p = nI (G 13 p) := by
  have hg : G 13 p = k := by rw [hQ.2.2.2.1 p, h, nx_nI (show k < 2 ^ 31 by omega)]
  exact ⟨hg, by rw [tzM_o (by omega) (by omega), h, hg]⟩
theorem lb197 {g2 : zσ → Option zσ} {w : Int32} (hn : 5000 ≤ n) (hy : y = 1134 ∨ y = 1170) (hg : ∀ t, bk (fun u => u) (LR np y tz) (f191 n g2 t) t) (t : zσ) : bk (fun u => u) (LR np y tz) (yb0 (f182 n t) fun u9 => yb1 (f167 n u9) fun v11 u10 => if v11 = (0 : Int32) then some u10 else yb0 (f164 n u10) fun u12 => yb0 (f191 n g2 u12) fun u13 => yb0 (f179 n (93 : Int32) u13) fun u14 => zlet (sI u14 1132 14 ((u14.1 1132 14) - (1 : Int32))) fun u15 => yb0 (f196 n (2 : Int32) w u15) fun u16 => some u16) t := by
  repeat' (first | (with_reducible exact hg _) | (with_reducible exact b195 hy) | (with_reducible exact b164 hy) | (with_reducible exact b196 hy) | (with_reducible exact b182 hy) | (with_reducible exact b179 hy) | (with_reducible exact b172 hy) | (with_reducible exact b173 hy (by decide)) | (with_reducible exact b189 hn hy) | (with_reducible exact b190 hn hy _) | (with_reducible exact b178 hy) | (with_reducible exact bk_none) | (with_reducible exact bk_some LR_rf) | (with_reducible refine bk_ite (fun _ => ?_) (fun _ => ?_)) | (with_reducible refine bk_rdL ?_) | (with_reducible refine bk_zS LR_tr (LR_I ?_ ?_ ?_ ?_) ?_) | (with_reducible refine bk_zS LR_tr (LR_J ?_ ?_) ?_) | (with_reducible refine bk_zV ?_) | (with_reducible refine bk_y0 LR_tr ?_ (fun _ => ?_)) | (with_reducible refine bk_y1 LR_tr ?_ (fun _ _ => ?_)) | (with_reducible exact bk_pu pu_167 _) | (with_reducible exact bk_pu pu_177 _) | (with_reducible refine bk_pu (pu_170 hn ?_) _) | (with_reducible exact bk_pu (pu_175 hn) _) | (omega) | (decide))
theorem named {g g2 : zσ → Option zσ} (hQ : HQ n U len x y s0 t0 K tz G ub) (hX : dp < 12 → EB n U len x y s0 t0 K np tz G bl ub 4 (dp + 1) (f49 n g) (f191 n g2)) (hg : ∀ t, bk (fun u => u) (LR np y tz) (g2 t) t) (h : ER U len x y s0 t0 K np tz G bl ub q dp nd cd us s t) (hk : tkKind U len q = 1) (H : Hb (fun u => u) K np y tz (yb0 (f195 n t) (f197 n g2))) : Rs (FC len x s0) (FM len y t0) (ZB K y tz) (EA U len x y s0 t0 K np tz G bl ub (1 + 3 * (12 - dp)) q dp nd cd us s t) (f55 n g s) (yb0 (f195 n t) (f197 n g2)) := by
  obtain ⟨hn, hS, hub, -⟩ := id hQ
  have hx := hS.1
  have hy := hS.2.1
  have hql := tk_lt h (by rw [hk]; decide)
  have hgt := tkNx_gt (U := U) hql
  have hbX := b191 (np := np) (tz := tz) hn hy hg
  have hcn := h.2.2.2.2.2.1.2.2
  have hun := h.2.2.2.2.2.2.1.2
  unfold f55
  refine st00 H (ER_y hS h) (b195 hy) (fun u => b197 hn hy hg u) (er_cnt hS h (by rw [hk]; decide)) (fun f z a hF => ?_) (fun f z b hM => ?_) (fun s1 t1 hA H2 => ?_)
  · refine fcs_56 hn hS hF (fun v => fw_i (fun _ => ?_) (fun _ => ?_))
    · repeat' (first | (with_reducible assumption) | (with_reducible refine fw_some ?_) | (with_reducible exact ⟨rfl, by assumption⟩) | (with_reducible refine fcs_r5 hS (by assumption) ?_) | (with_reducible refine fcs_r6 hS (by assumption) ?_) | (with_reducible refine fcs_r4 hS (by assumption) ?_) | (with_reducible refine fcs_32 (by assumption) ?_) | (with_reducible refine fcs_26 (by assumption) ?_) | (with_reducible refine fcs_37 (by assumption) ?_ ?_) | (with_reducible refine fcs_39 (by assumption) ?_ ?_) | (with_reducible refine fcs_41 (by assumption) ?_ ?_) | (with_reducible refine fcs_57 (by assumption) ?_) | (with_reducible refine fcs_58 hS (by assumption) ?_) | (with_reducible refine fcs_53 hS (by assumption) (fun _ _ => ?_)) | (with_reducible refine fcs_54 hx (by assumption) (fun _ _ => ?_)) | (with_reducible refine fcs_I (by assumption) hx ?_ ?_ ?_ (fun _ => ?_)) | (with_reducible refine fw_z ?_) | (with_reducible refine fw_i1 rfl ?_) | (with_reducible refine fw_i1 (by assumption) ?_) | (with_reducible refine fw_i0 (by assumption) ?_) | (with_reducible refine fw_i0 (fc_k (by assumption) ?_) ?_) | (with_reducible refine fcs_k (by assumption) ?_) | (refine fw_i0 (by decide) ?_) | (refine fw_i1 (by decide) ?_) | (omega) | (decide))
    · repeat' (first | (with_reducible assumption) | (with_reducible refine fw_some ?_) | (with_reducible exact ⟨rfl, by assumption⟩) | (with_reducible refine fcs_r5 hS (by assumption) ?_) | (with_reducible refine fcs_r6 hS (by assumption) ?_) | (with_reducible refine fcs_r4 hS (by assumption) ?_) | (with_reducible refine fcs_32 (by assumption) ?_) | (with_reducible refine fcs_26 (by assumption) ?_) | (with_reducible refine fcs_37 (by assumption) ?_ ?_) | (with_reducible refine fcs_39 (by assumption) ?_ ?_) | (with_reducible refine fcs_41 (by assumption) ?_ ?_) | (with_reducible refine fcs_57 (by assumption) ?_) | (with_reducible refine fcs_58 hS (by assumption) ?_) | (with_reducible refine fcs_53 hS (by assumption) (fun _ _ => ?_)) | (with_reducible refine fcs_54 hx (by assumption) (fun _ _ => ?_)) | (with_reducible refine fcs_I (by assumption) hx ?_ ?_ ?_ (fun _ => ?_)) | (with_reducible refine fw_z ?_) | (with_reducible refine fw_i1 rfl ?_) | (with_reducible refine fw_i1 (by assumption) ?_) | (with_reducible refine fw_i0 (by assumption) ?_) | (with_reducible refine fw_i0 (fc_k (by assumption) ?_) ?_) | (with_reducible refine fcs_k (by assumption) ?_) | (refine fw_i0 (by decide) ?_) | (refine fw_i1 (by decide) ?_) | (omega) | (decide))
  · unfold f197 f197_77
    repeat' (first | (with_reducible assumption) | (with_reducible refine fw_some ?_) | (with_reducible exact ⟨rfl, by assumption⟩) | (with_reducible refine fms_rd hS (by assumption) ?_) | (with_reducible refine fms_167 (by assumption) ?_) | (with_reducible refine fms_173 (by assumption) ?_) | (with_reducible refine fms_172 (by assumption) ?_) | (with_reducible refine fms_179 (by assumption) ?_) | (with_reducible refine fms_164 hn hS (by assumption) (fun _ _ => ?_)) | (with_reducible refine fms_196 (by assumption) ?_) | (with_reducible refine fms_195 hS (by assumption) ?_) | (with_reducible refine fms_182 hS (by assumption) (fun _ _ => ?_)) | (with_reducible refine fms_189 (by assumption) ?_) | (with_reducible refine fms_190 (by assumption) ?_) | (with_reducible refine fms_178 (by assumption) ?_) | (with_reducible refine fms_I (by assumption) hy ?_ (fun _ => ?_)) | (with_reducible refine fw_z ?_) | (with_reducible refine fw_i1 rfl ?_) | (with_reducible refine fw_i1 (by assumption) ?_) | (with_reducible refine fw_i0 (by assumption) ?_) | (refine fw_i0 (by decide) ?_) | (refine fw_i1 (by decide) ?_) | (omega) | (decide))
  obtain ⟨hnd, hC1, hE1⟩ := hA
  obtain ⟨v, ev, hv⟩ := er_peek hn hE1
  rw [ev, yb1_s]
  obtain ⟨t2, e2, g2', o2, v1, v2, v3, v4, v5, v6, w1, w2, w3, w4⟩ := use_189 (w := 10) hn hS hE1 hk (by omega)
  by_cases hbr : tkKind U len (tkNx U len q) = 91
  · rw [if_pos (hv.mpr hbr)]
    have g91 : f177 n 91 t2 = some (zone (decide (tkKind U len (tkNx U len q) = 91)), t2) := tm_sign (c := 91) g2'.1 (by decide) (by decide)
    have hr2 : t2.2.2 1132 12 = some y := by rw [o2.2.2.1]; exact ER_y hS hE1
    have hm : f197 n g2 t1 = yb0 (f182 n (sI t2 (y + 31) us 1)) fun u9 => yb1 (f167 n u9) fun v11 u10 => if v11 = (0 : Int32) then some u10 else yb0 (f164 n u10) fun u12 => yb0 (f191 n g2 u12) fun u13 => yb0 (f179 n (93 : Int32) u13) fun u14 => zlet (sI u14 1132 14 ((u14.1 1132 14) - (1 : Int32))) fun u15 => yb0 (f196 n (2 : Int32) (nI us) u15) fun u16 => some u16 := by
      unfold f197
      rw [e2, yb1_s, m_goes g2'.2, yb1_s, if_neg (by decide), g91, yb1_s, zone_1 hbr, if_neg (by decide), hr2, grd (gck12 hy), if_pos (zin_nI (show us < 1400 by omega) (by decide)), nx_nI (show us < 2 ^ 31 by omega)]
      rfl
    rw [hm] at H2 ⊢
    have hL := Hb_bk H2 (lb197 hn hy hbX _) (show (sI t2 (y + 31) us 1).2.2 1132 12 = some y from hr2)
    have o3 : frM y t1 (sI t2 (y + 31) us 1) := frM_tr o2 (frM_I hy (by omega))
    rcases use_raw (a := 1) (w := 1) (c0 := 1) hQ hE1 hk (by omega) (Or.inl ⟨rfl, rfl⟩) (by omega) (MG_I (by omega) (by omega) g2') o3 (by rw [hIo (by omega)]; exact v1) (by rw [hIo (by omega)]; exact v2) (by rw [hIo (by omega)]; exact v3) (by rw [hIo (by omega)]; exact v4) (fun u hu => by rw [hIo (by omega)]; exact v5 u hu) (by rw [hIo (by omega)]; exact v6) w1 (by rw [hIo (by omega)]; exact w2) hIe (by rw [hIo (by omega)]; exact w4) hL with ⟨v, s2, e1, hE2, -, hR⟩ | ⟨s2, z, e1, hz, hF⟩
    · rw [e1, yb1_s]
      obtain ⟨hC2, hE2⟩ := hE2
      have hk2 : ¬ tkKind U len (tkNx U len q) = 0 := by rw [hbr]; decide
      refine er_open (c := 91) (vc := fun u => u) (vm := fun u => u) hn hS hE2 hbr hk2 H2 (fun u => ?_) (fun f z u h => h) (fun f z u h => h) (fun hlt s3 t3 hA H3 => ?_) (fun hlt f z u hF => ?_) (fun hlt f z u hM => ?_)
      · repeat' (first | (with_reducible exact hbX _) | (with_reducible exact b195 hy) | (with_reducible exact b164 hy) | (with_reducible exact b196 hy) | (with_reducible exact b182 hy) | (with_reducible exact b179 hy) | (with_reducible exact b172 hy) | (with_reducible exact b173 hy (by decide)) | (with_reducible exact b189 hn hy) | (with_reducible exact b190 hn hy _) | (with_reducible exact b178 hy) | (with_reducible exact bk_none) | (with_reducible exact bk_some LR_rf) | (with_reducible refine bk_ite (fun _ => ?_) (fun _ => ?_)) | (with_reducible refine bk_rdL ?_) | (with_reducible refine bk_zS LR_tr (LR_I ?_ ?_ ?_ ?_) ?_) | (with_reducible refine bk_zS LR_tr (LR_J ?_ ?_) ?_) | (with_reducible refine bk_zV ?_) | (with_reducible refine bk_y0 LR_tr ?_ (fun _ => ?_)) | (with_reducible refine bk_y1 LR_tr ?_ (fun _ _ => ?_)) | (with_reducible exact bk_pu pu_167 _) | (with_reducible exact bk_pu pu_177 _) | (with_reducible refine bk_pu (pu_170 hn ?_) _) | (with_reducible exact bk_pu (pu_175 hn) _) | (omega) | (decide))
      · obtain ⟨hB1, hB2, hB3, hB4⟩ := hX hlt
        refine st00 H3 (ER_y hS hA.2) (hB4 _) (fun u => ?_) (hB1 _ _ _ _ _ _ _ (Nat.le_refl _) hA.2) (fun f z a hF => ?_) (fun f z b hM => ?_) (fun s4 t4 hA2 H4 => ?_)
        · repeat' (first | (with_reducible exact b195 hy) | (with_reducible exact b164 hy) | (with_reducible exact b196 hy) | (with_reducible exact b182 hy) | (with_reducible exact b179 hy) | (with_reducible exact b172 hy) | (with_reducible exact b173 hy (by decide)) | (with_reducible exact b189 hn hy) | (with_reducible exact b190 hn hy _) | (with_reducible exact b178 hy) | (with_reducible exact bk_none) | (with_reducible exact bk_some LR_rf) | (with_reducible refine bk_ite (fun _ => ?_) (fun _ => ?_)) | (with_reducible refine bk_rdL ?_) | (with_reducible refine bk_zS LR_tr (LR_I ?_ ?_ ?_ ?_) ?_) | (with_reducible refine bk_zS LR_tr (LR_J ?_ ?_) ?_) | (with_reducible refine bk_zV ?_) | (with_reducible refine bk_y0 LR_tr ?_ (fun _ => ?_)) | (with_reducible refine bk_y1 LR_tr ?_ (fun _ _ => ?_)) | (with_reducible exact bk_pu pu_167 _) | (with_reducible exact bk_pu pu_177 _) | (with_reducible refine bk_pu (pu_170 hn ?_) _) | (with_reducible exact bk_pu (pu_175 hn) _) | (omega) | (decide))
        · repeat' (first | (with_reducible assumption) | (with_reducible refine fw_some ?_) | (with_reducible exact ⟨rfl, by assumption⟩) | (with_reducible refine fcs_r5 hS (by assumption) ?_) | (with_reducible refine fcs_r6 hS (by assumption) ?_) | (with_reducible refine fcs_r4 hS (by assumption) ?_) | (with_reducible refine fcs_32 (by assumption) ?_) | (with_reducible refine fcs_26 (by assumption) ?_) | (with_reducible refine fcs_37 (by assumption) ?_ ?_) | (with_reducible refine fcs_39 (by assumption) ?_ ?_) | (with_reducible refine fcs_41 (by assumption) ?_ ?_) | (with_reducible refine fcs_57 (by assumption) ?_) | (with_reducible refine fcs_58 hS (by assumption) ?_) | (with_reducible refine fcs_53 hS (by assumption) (fun _ _ => ?_)) | (with_reducible refine fcs_54 hx (by assumption) (fun _ _ => ?_)) | (with_reducible refine fcs_I (by assumption) hx ?_ ?_ ?_ (fun _ => ?_)) | (with_reducible refine fw_z ?_) | (with_reducible refine fw_i1 rfl ?_) | (with_reducible refine fw_i1 (by assumption) ?_) | (with_reducible refine fw_i0 (by assumption) ?_) | (with_reducible refine fw_i0 (fc_k (by assumption) ?_) ?_) | (with_reducible refine fcs_k (by assumption) ?_) | (refine fw_i0 (by decide) ?_) | (refine fw_i1 (by decide) ?_) | (omega) | (decide))
        · repeat' (first | (with_reducible assumption) | (with_reducible refine fw_some ?_) | (with_reducible exact ⟨rfl, by assumption⟩) | (with_reducible refine fms_rd hS (by assumption) ?_) | (with_reducible refine fms_167 (by assumption) ?_) | (with_reducible refine fms_173 (by assumption) ?_) | (with_reducible refine fms_172 (by assumption) ?_) | (with_reducible refine fms_179 (by assumption) ?_) | (with_reducible refine fms_164 hn hS (by assumption) (fun _ _ => ?_)) | (with_reducible refine fms_196 (by assumption) ?_) | (with_reducible refine fms_195 hS (by assumption) ?_) | (with_reducible refine fms_182 hS (by assumption) (fun _ _ => ?_)) | (with_reducible refine fms_189 (by assumption) ?_) | (with_reducible refine fms_190 (by assumption) ?_) | (with_reducible refine fms_178 (by assumption) ?_) | (with_reducible refine fms_I (by assumption) hy ?_ (fun _ => ?_)) | (with_reducible refine fw_z ?_) | (with_reducible refine fw_i1 rfl ?_) | (with_reducible refine fw_i1 (by assumption) ?_) | (with_reducible refine fw_i0 (by assumption) ?_) | (refine fw_i0 (by decide) ?_) | (refine fw_i1 (by decide) ?_) | (omega) | (decide))
        obtain ⟨q4, nd4, cd4, us4, hP⟩ := hA2
        have hE4 := hP.2.2.1.2
        have hb := hP.2.1
        have hb1 := hP.1.1
        refine st00 H4 (ER_y hS hE4) (b179 hy) (fun u => ?_) (er_want (c := 93) hn hS (by decide) (by decide) hE4) (fun f z a hF => ?_) (fun f z b hM => ?_) (fun s5 t5 hA3 H5 => ?_)
        · repeat' (first | (with_reducible exact b195 hy) | (with_reducible exact b164 hy) | (with_reducible exact b196 hy) | (with_reducible exact b182 hy) | (with_reducible exact b179 hy) | (with_reducible exact b172 hy) | (with_reducible exact b173 hy (by decide)) | (with_reducible exact b189 hn hy) | (with_reducible exact b190 hn hy _) | (with_reducible exact b178 hy) | (with_reducible exact bk_none) | (with_reducible exact bk_some LR_rf) | (with_reducible refine bk_ite (fun _ => ?_) (fun _ => ?_)) | (with_reducible refine bk_rdL ?_) | (with_reducible refine bk_zS LR_tr (LR_I ?_ ?_ ?_ ?_) ?_) | (with_reducible refine bk_zS LR_tr (LR_J ?_ ?_) ?_) | (with_reducible refine bk_zV ?_) | (with_reducible refine bk_y0 LR_tr ?_ (fun _ => ?_)) | (with_reducible refine bk_y1 LR_tr ?_ (fun _ _ => ?_)) | (with_reducible exact bk_pu pu_167 _) | (with_reducible exact bk_pu pu_177 _) | (with_reducible refine bk_pu (pu_170 hn ?_) _) | (with_reducible exact bk_pu (pu_175 hn) _) | (omega) | (decide))
        · repeat' (first | (with_reducible assumption) | (with_reducible refine fw_some ?_) | (with_reducible exact ⟨rfl, by assumption⟩) | (with_reducible refine fcs_r5 hS (by assumption) ?_) | (with_reducible refine fcs_r6 hS (by assumption) ?_) | (with_reducible refine fcs_r4 hS (by assumption) ?_) | (with_reducible refine fcs_32 (by assumption) ?_) | (with_reducible refine fcs_26 (by assumption) ?_) | (with_reducible refine fcs_37 (by assumption) ?_ ?_) | (with_reducible refine fcs_39 (by assumption) ?_ ?_) | (with_reducible refine fcs_41 (by assumption) ?_ ?_) | (with_reducible refine fcs_57 (by assumption) ?_) | (with_reducible refine fcs_58 hS (by assumption) ?_) | (with_reducible refine fcs_53 hS (by assumption) (fun _ _ => ?_)) | (with_reducible refine fcs_54 hx (by assumption) (fun _ _ => ?_)) | (with_reducible refine fcs_I (by assumption) hx ?_ ?_ ?_ (fun _ => ?_)) | (with_reducible refine fw_z ?_) | (with_reducible refine fw_i1 rfl ?_) | (with_reducible refine fw_i1 (by assumption) ?_) | (with_reducible refine fw_i0 (by assumption) ?_) | (with_reducible refine fw_i0 (fc_k (by assumption) ?_) ?_) | (with_reducible refine fcs_k (by assumption) ?_) | (refine fw_i0 (by decide) ?_) | (refine fw_i1 (by decide) ?_) | (omega) | (decide))
        · repeat' (first | (with_reducible assumption) | (with_reducible refine fw_some ?_) | (with_reducible exact ⟨rfl, by assumption⟩) | (with_reducible refine fms_rd hS (by assumption) ?_) | (with_reducible refine fms_167 (by assumption) ?_) | (with_reducible refine fms_173 (by assumption) ?_) | (with_reducible refine fms_172 (by assumption) ?_) | (with_reducible refine fms_179 (by assumption) ?_) | (with_reducible refine fms_164 hn hS (by assumption) (fun _ _ => ?_)) | (with_reducible refine fms_196 (by assumption) ?_) | (with_reducible refine fms_195 hS (by assumption) ?_) | (with_reducible refine fms_182 hS (by assumption) (fun _ _ => ?_)) | (with_reducible refine fms_189 (by assumption) ?_) | (with_reducible refine fms_190 (by assumption) ?_) | (with_reducible refine fms_178 (by assumption) ?_) | (with_reducible refine fms_I (by assumption) hy ?_ (fun _ => ?_)) | (with_reducible refine fw_z ?_) | (with_reducible refine fw_i1 rfl ?_) | (with_reducible refine fw_i1 (by assumption) ?_) | (with_reducible refine fw_i0 (by assumption) ?_) | (refine fw_i0 (by decide) ?_) | (refine fw_i1 (by decide) ?_) | (omega) | (decide))
        obtain ⟨hC6, hE6⟩ := er_close hS hA3.2.2
        show Rs _ _ _ _ (zrd 6 ((sI s5 1004 9 (s5.1 1004 9 - 1)).2.2 1004 5) _) (yb0 (f196 n 2 (nI us) (sI t5 1132 14 (t5.1 1132 14 - 1))) _)
        rw [ER_5 hS hE6, grd (gck9 hx).2.1, y0s, y0s]
        have H6 : Hb (fun u => u) K np y tz (f196 n 2 (nI us) (sI t5 1132 14 (t5.1 1132 14 - 1))) := by
          have := H5
          simp only [zlet, y0s] at this
          exact this
        have hg5 := tkNx_gt (U := U) hA3.1.1
        have hgt2 := tkNx_gt (U := U) (tk_lt hE2 (by rw [hbr]; decide))
        refine Rs_w (er_emit hS hE6 (by omega) H6) (fun a b _ _ hab => ⟨_, nd4, cd4 + 1, us4, ⟨by omega, Or.inl (by omega)⟩, ⟨by omega, by omega, by omega, by omega, by omega⟩, ⟨EC_tr (EC_tr (EC_tr (EC_tr (EC_tr (EC_tr hC1 hC2 (by omega) (by omega)) hA.1 (by omega) (by omega)) hP.2.2.1.1 (by omega) (by omega)) hA3.2.1 (by omega) (by omega)) hC6 (by omega) (by omega)) hab.1.1 (by omega) (by omega), hab.1.2⟩, fun hK => ?_⟩)
        obtain ⟨c1, c2, c3, c4⟩ := hab.2 hK
        obtain ⟨g13, gM⟩ := tC_k (k := 2) hQ (by omega) c3
        refine sg_un (Or.inl g13) (sg_up (show 4 + 3 * (12 - (dp + 1)) ≤ 1 + 3 * (12 - dp) by omega) (sg_fr (fun p hp => ?_) (hP.2.2.2 hK))) ⟨gM, Or.inr (Or.inr (Or.inl ⟨g13, c1, ?_⟩))⟩
        · have f1 := hab.1.1.2.2.1 hK p hp
          have f2 := hC6.2.2.1 hK p hp
          have f3 := hA3.2.1.2.2.1 hK p hp
          exact ⟨(f1.1.trans f2.1).trans f3.1, (f1.2.trans f2.2).trans f3.2⟩
        · rw [c2, tzM_o (by omega) (by omega), c4]
          exact (hR hK).1.1 1 (by omega) rfl
      · have hFX := (hX hlt).2.1
        repeat' (first | (with_reducible refine fw_y0 (hFX _ _ _ (by assumption)) (fun _ _ => ?_)) | (with_reducible assumption) | (with_reducible refine fw_some ?_) | (with_reducible exact ⟨rfl, by assumption⟩) | (with_reducible refine fcs_r5 hS (by assumption) ?_) | (with_reducible refine fcs_r6 hS (by assumption) ?_) | (with_reducible refine fcs_r4 hS (by assumption) ?_) | (with_reducible refine fcs_32 (by assumption) ?_) | (with_reducible refine fcs_26 (by assumption) ?_) | (with_reducible refine fcs_37 (by assumption) ?_ ?_) | (with_reducible refine fcs_39 (by assumption) ?_ ?_) | (with_reducible refine fcs_41 (by assumption) ?_ ?_) | (with_reducible refine fcs_57 (by assumption) ?_) | (with_reducible refine fcs_58 hS (by assumption) ?_) | (with_reducible refine fcs_53 hS (by assumption) (fun _ _ => ?_)) | (with_reducible refine fcs_54 hx (by assumption) (fun _ _ => ?_)) | (with_reducible refine fcs_I (by assumption) hx ?_ ?_ ?_ (fun _ => ?_)) | (with_reducible refine fw_z ?_) | (with_reducible refine fw_i1 rfl ?_) | (with_reducible refine fw_i1 (by assumption) ?_) | (with_reducible refine fw_i0 (by assumption) ?_) | (with_reducible refine fw_i0 (fc_k (by assumption) ?_) ?_) | (with_reducible refine fcs_k (by assumption) ?_) | (refine fw_i0 (by decide) ?_) | (refine fw_i1 (by decide) ?_) | (omega) | (decide))
      · have hMX := (hX hlt).2.2.1
        repeat' (first | (with_reducible refine fw_y0 (hMX _ _ _ (by assumption)) (fun _ _ => ?_)) | (with_reducible assumption) | (with_reducible refine fw_some ?_) | (with_reducible exact ⟨rfl, by assumption⟩) | (with_reducible refine fms_rd hS (by assumption) ?_) | (with_reducible refine fms_167 (by assumption) ?_) | (with_reducible refine fms_173 (by assumption) ?_) | (with_reducible refine fms_172 (by assumption) ?_) | (with_reducible refine fms_179 (by assumption) ?_) | (with_reducible refine fms_164 hn hS (by assumption) (fun _ _ => ?_)) | (with_reducible refine fms_196 (by assumption) ?_) | (with_reducible refine fms_195 hS (by assumption) ?_) | (with_reducible refine fms_182 hS (by assumption) (fun _ _ => ?_)) | (with_reducible refine fms_189 (by assumption) ?_) | (with_reducible refine fms_190 (by assumption) ?_) | (with_reducible refine fms_178 (by assumption) ?_) | (with_reducible refine fms_I (by assumption) hy ?_ (fun _ => ?_)) | (with_reducible refine fw_z ?_) | (with_reducible refine fw_i1 rfl ?_) | (with_reducible refine fw_i1 (by assumption) ?_) | (with_reducible refine fw_i0 (by assumption) ?_) | (refine fw_i0 (by decide) ?_) | (refine fw_i1 (by decide) ?_) | (omega) | (decide))
    · rw [e1, yb1_s]
      refine Rs_C hz ?_
      repeat' (first | (with_reducible assumption) | (with_reducible refine fw_some ?_) | (with_reducible exact ⟨rfl, by assumption⟩) | (with_reducible refine fcs_r5 hS (by assumption) ?_) | (with_reducible refine fcs_r6 hS (by assumption) ?_) | (with_reducible refine fcs_r4 hS (by assumption) ?_) | (with_reducible refine fcs_32 (by assumption) ?_) | (with_reducible refine fcs_26 (by assumption) ?_) | (with_reducible refine fcs_37 (by assumption) ?_ ?_) | (with_reducible refine fcs_39 (by assumption) ?_ ?_) | (with_reducible refine fcs_41 (by assumption) ?_ ?_) | (with_reducible refine fcs_57 (by assumption) ?_) | (with_reducible refine fcs_58 hS (by assumption) ?_) | (with_reducible refine fcs_53 hS (by assumption) (fun _ _ => ?_)) | (with_reducible refine fcs_54 hx (by assumption) (fun _ _ => ?_)) | (with_reducible refine fcs_I (by assumption) hx ?_ ?_ ?_ (fun _ => ?_)) | (with_reducible refine fw_z ?_) | (with_reducible refine fw_i1 rfl ?_) | (with_reducible refine fw_i1 (by assumption) ?_) | (with_reducible refine fw_i0 (by assumption) ?_) | (with_reducible refine fw_i0 (fc_k (by assumption) ?_) ?_) | (with_reducible refine fcs_k (by assumption) ?_) | (refine fw_i0 (by decide) ?_) | (refine fw_i1 (by decide) ?_) | (omega) | (decide))
  · rw [if_neg (fun e => hbr (hv.mp e)), ER_5 hS hE1, grd (gck9 hx).2.1]
    have g91 : f177 n 91 t2 = some (zone (decide (tkKind U len (tkNx U len q) = 91)), t2) := tm_sign (c := 91) g2'.1 (by decide) (by decide)
    have hr2 : t2.2.2 1132 12 = some y := by rw [o2.2.2.1]; exact ER_y hS hE1
    have hm : f197 n g2 t1 = f196 n 1 (nI us) t2 := by
      unfold f197 f197_77
      rw [e2, yb1_s, m_goes g2'.2, yb1_s, if_neg (by decide), g91, yb1_s, zone_0 hbr, if_pos rfl, y0s]
    rw [hm] at H2 ⊢
    have hL := Hb_bk H2 (b196 hy) hr2
    rcases use_raw (a := 9) (w := 10) (c0 := 0) hQ hE1 hk (by omega) (Or.inr ⟨rfl, rfl, rfl⟩) (by omega) g2' o2 v1 v2 v3 v4 v5 v6 w1 w2 w3 w4 hL with ⟨v, s2, e1, hE2, -, hR⟩ | ⟨s2, z, e1, hz, hF⟩
    · rw [e1, yb1_s, y0s]
      obtain ⟨hC2, hE2⟩ := hE2
      refine Rs_w (er_emit hS hE2 (by omega) H2) (fun a b _ _ hab => ⟨_, nd + 1, cd + 1, us + 1, ⟨by omega, Or.inr (Or.inl hk)⟩, ⟨by omega, by omega, by omega, by omega, by omega⟩, ⟨EC_tr (EC_tr hC1 hC2 (by omega) (by omega)) hab.1.1 (by omega) (by omega), hab.1.2⟩, fun hK => ?_⟩)
      obtain ⟨c1, c2, c3, c4⟩ := hab.2 hK
      obtain ⟨g13, gM⟩ := tC_k (k := 1) hQ (by omega) c3
      refine sg_up (show 1 ≤ 1 + 3 * (12 - dp) by omega) (sg_one (by omega) ⟨gM, Or.inr (Or.inl ⟨g13, c1, ?_⟩)⟩)
      rw [c2, tzM_o (by omega) (by omega), c4]
      exact (hR hK).1.2 rfl
    · rw [e1, yb1_s]
      refine Rs_C hz ?_
      repeat' (first | (with_reducible assumption) | (with_reducible refine fw_some ?_) | (with_reducible exact ⟨rfl, by assumption⟩) | (with_reducible refine fcs_r5 hS (by assumption) ?_) | (with_reducible refine fcs_r6 hS (by assumption) ?_) | (with_reducible refine fcs_r4 hS (by assumption) ?_) | (with_reducible refine fcs_32 (by assumption) ?_) | (with_reducible refine fcs_26 (by assumption) ?_) | (with_reducible refine fcs_37 (by assumption) ?_ ?_) | (with_reducible refine fcs_39 (by assumption) ?_ ?_) | (with_reducible refine fcs_41 (by assumption) ?_ ?_) | (with_reducible refine fcs_57 (by assumption) ?_) | (with_reducible refine fcs_58 hS (by assumption) ?_) | (with_reducible refine fcs_53 hS (by assumption) (fun _ _ => ?_)) | (with_reducible refine fcs_54 hx (by assumption) (fun _ _ => ?_)) | (with_reducible refine fcs_I (by assumption) hx ?_ ?_ ?_ (fun _ => ?_)) | (with_reducible refine fw_z ?_) | (with_reducible refine fw_i1 rfl ?_) | (with_reducible refine fw_i1 (by assumption) ?_) | (with_reducible refine fw_i0 (by assumption) ?_) | (with_reducible refine fw_i0 (fc_k (by assumption) ?_) ?_) | (with_reducible refine fcs_k (by assumption) ?_) | (refine fw_i0 (by decide) ?_) | (refine fw_i1 (by decide) ?_) | (omega) | (decide))
/-! numbers and the time -/
theorem sI_cm {a b k j : Nat} {v w : Int32} (h : ¬ (a = b ∧ k = j)) : sI (sI s a k v) b j w = sI (sI s b j w) a k v := by
  refine Prod.ext ?_ rfl
  funext c i
  show (sI (sI s a k v) b j w).1 c i = (sI (sI s b j w) a k v).1 c i
  simp only [gI]
  by_cases h1 : c = b ∧ i = j
  · rw [if_pos h1, if_neg (fun h2 => h ⟨h2.1.symm.trans h1.1, h2.2.symm.trans h1.2⟩), if_pos h1]
  · rw [if_neg h1, if_neg h1]
theorem f54_v {c d : Int32} (hcd : s.1 (x + 19) 11 = nI cd) (hlt : cd < 400) : f54 n (x + 19) c d s = some (sI (sI (sI s (x + 27) cd c) (x + 28) cd d) (x + 19) 11 (nI (cd + 1))) := by
  unfold f54
  rw [hcd]
  have hin : zin? (nI cd) 400 = true := zin_nI (by omega) (by decide)
  have g1 : ∀ j v, (sI s (x + 19 + 8) j v).1 (x + 19) 11 = nI cd := fun j v => by rw [hIo (by omega), hcd]
  have g2 : ∀ j v j2 v2, (sI (sI s (x + 19 + 8) j v) (x + 19 + 9) j2 v2).1 (x + 19) 11 = nI cd := fun j v j2 v2 => by rw [hIo (by omega), g1]
  rw [if_pos (show nI cd < 400 from nI_lt (b := 400) (by omega) (by decide)), if_pos hin]
  simp only [zlet, g1, if_pos hin, g2, nI_1, nx_nI (show cd < 2 ^ 31 by omega)]
/-- the class at a number or time; the reference has its code -/
theorem lit_c {k c2 d2 : Int32} {kk : Nat} {g : zσ → Option zσ} (hQ : HQ n U len x y s0 t0 K tz G ub) (h : ER U len x y s0 t0 K np tz G bl ub q dp nd cd us s t) (hlt : nd < 400) (hql : q < len) (hk' : tkKind U len q = k) (hk4 : ¬ k = 40 ∧ ¬ k = 45) (c2' : MG U len (tkNx U len q) t2) (o2 : frM y t t2) (v14 : t2.1 1132 14 = t.1 1132 14) (v27 : t2.1 y 27 = nI (nd + 1)) (v31 : t2.1 y 31 = nI (cd + 1)) (v34 : t2.1 y 34 = t.1 y 34) (v35 : t2.1 (y + 35) = t.1 (y + 35)) (w27 : t2.1 (y + 27) cd = c2) (w28 : t2.1 (y + 28) cd = d2) (hl : K = 1 → Lt np y t2 tz) (hkk : c2 = nI kk) (hC : k = 2 ∧ kk = 0 ∧ d2 = s.1 1001 6 ∨ k = 143 ∧ kk = 4) : fw (fun a => EA U len x y s0 t0 K np tz G bl ub (1 + 3 * (12 - dp)) q dp nd cd us s t a t2) (f52_115 n g k s) := by
  obtain ⟨hn, hS, -⟩ := id hQ
  have hx := hS.1
  have hy := hS.2.1
  obtain ⟨-, -, -, ⟨d1, d2', d3⟩, ⟨n1, n2, n3⟩, ⟨k1, k2, k3⟩, ⟨u1, u2⟩, hK⟩ := id h
  have hkn4 : ¬ s.1 1001 4 = 4 := by rw [ER_k h]; exact tk_ne4 (ER_q h).2.1 (ER_q h).1
  let s1 := sI (sI (sI (sI s (x + 27) cd k) (x + 28) cd (s.1 1001 6)) (x + 19) 11 (nI (cd + 1))) (x + 19) 10 (nI (nd + 1))
  have c1 : CG U len q s1 := CG_I (by omega) (by omega) (by omega) (CG_I (by omega) (by omega) (by omega) (CG_I (by omega) (by omega) (by omega) (CG_I (by omega) (by omega) (by omega) h.1.2)))
  obtain ⟨s3, e3, c3, o3⟩ := c_adv hn c1
  have o1 : frE x s s3 := frE_tr (frE_tr (frE_tr (frE_tr (frE_I hx (by omega)) (frE_I hx (by omega))) (frE_I hx (by omega))) (frE_I hx (by omega))) (frE_o hx o3)
  have r27 : s3.1 (x + 27) = s1.1 (x + 27) := (o3.1 _ (by omega)).1
  have r28 : s3.1 (x + 28) = s1.1 (x + 28) := (o3.1 _ (by omega)).1
  have r19 : s3.1 (x + 19) = s1.1 (x + 19) := (o3.1 _ (by omega)).1
  have z27 : ∀ p, s3.1 (x + 27) p = if p = cd then k else s.1 (x + 27) p := fun p => by
    rw [r27]
    show (sI (sI (sI (sI s (x + 27) cd k) (x + 28) cd (s.1 1001 6)) (x + 19) 11 (nI (cd + 1))) (x + 19) 10 (nI (nd + 1))).1 (x + 27) p = _
    rw [hIo (by omega), hIo (by omega), hIo (by omega), gI]
    by_cases e : p = cd
    · rw [if_pos ⟨rfl, e⟩, if_pos e]
    · rw [if_neg (fun h => e h.2), if_neg e]
  have z28 : ∀ p, s3.1 (x + 28) p = if p = cd then s.1 1001 6 else s.1 (x + 28) p := fun p => by
    rw [r28]
    show (sI (sI (sI (sI s (x + 27) cd k) (x + 28) cd (s.1 1001 6)) (x + 19) 11 (nI (cd + 1))) (x + 19) 10 (nI (nd + 1))).1 (x + 28) p = _
    rw [hIo (by omega), hIo (by omega), gI, hIo (by omega)]
    by_cases e : p = cd
    · rw [if_pos ⟨rfl, e⟩, if_pos e]
    · rw [if_neg (fun h => e h.2), if_neg e]
  have hgt := tkNx_gt (U := U) hql
  refine ⟨s3, ?_, _, nd + 1, cd + 1, us, ⟨hgt, Or.inr (Or.inr ?_)⟩, ⟨by omega, by omega, by omega, by omega, by omega⟩, ⟨⟨o1, o2, fun _ p hp => ?_, fun u _ => by rw [v35], fun u a b => by omega⟩, ER_of hS h o1 o2 c3 c2' ?_ (v14.trans d2') d3 ?_ v27 (by omega) ?_ v31 (by omega) (v34.trans u1) (by omega) (fun e => ⟨hl e, (hK e).2.1⟩)⟩, fun e => ?_⟩
  · unfold f52_115
    rw [ER_5 hS h, grd (gck9 hx).2.1, f54_v k1 (by omega), yb0_s, y0s]
    unfold f58
    have e5 : (sI (sI (sI s (x + 27) cd k) (x + 28) cd (s.1 1001 6)) (x + 19) 11 (nI (cd + 1))).2.2 1004 5 = some (x + 19) := (show s.2.2 1004 5 = some (x + 19) from ER_5 hS h)
    have e10 : (sI (sI (sI s (x + 27) cd k) (x + 28) cd (s.1 1001 6)) (x + 19) 11 (nI (cd + 1))).1 (x + 19) 10 = nI nd := by rw [hIk (by decide), hIo (by omega), hIo (by omega)]; exact n1
    have e4 : (sI (sI (sI s (x + 27) cd k) (x + 28) cd (s.1 1001 6)) (x + 19) 11 (nI (cd + 1))).1 1001 4 = s.1 1001 4 := by rw [hIo (by omega), hIo (by omega), hIo (by omega)]
    rw [e5, grd (gck9 hx).2.1, grd (gck9 hx).2.1, e10, e4, if_pos (show nI nd < 400 from nI_lt (b := 400) hlt (by decide)), if_neg hkn4, nI_1]
    simp only [zlet, y0s]
    exact e3
  · rw [hk']
    rcases hC with ⟨e, -⟩ | ⟨e, -⟩
    · exact Or.inl e
    · exact Or.inr (Or.inr (Or.inl e))
  · rw [z27, z28, if_neg (by omega), if_neg (by omega)]; exact ⟨rfl, rfl⟩
  · rw [(o3.1 1004 (by decide)).1]
    show (sI (sI (sI (sI s (x + 27) cd k) (x + 28) cd (s.1 1001 6)) (x + 19) 11 (nI (cd + 1))) (x + 19) 10 (nI (nd + 1))).1 1004 9 = _
    rw [hIo (by omega), hIo (by omega), hIo (by omega), hIo (by omega)]; exact d1
  · rw [r19]; exact hIe
  · rw [r19]
    show (sI (sI (sI (sI s (x + 27) cd k) (x + 28) cd (s.1 1001 6)) (x + 19) 11 (nI (cd + 1))) (x + 19) 10 (nI (nd + 1))).1 (x + 19) 11 = _
    rw [hIk (by decide), hIe]
  · have hL := hl e
    obtain ⟨cd1, cz, w1, w2, w3, w4, w5⟩ := hL.2.2.1
    have hc1 : cd1 = cd + 1 := (nI_eq (by omega) (by omega)).mp (w1.symm.trans v31)
    obtain ⟨x1, x2⟩ := w5 cd (by omega)
    have hz : tz.1 (y + 27) cd = nI kk := by rw [← x1, w27, hkk]
    obtain ⟨g13, gM⟩ := tC_k (k := kk) hQ (by omega) hz
    refine sg_up (show 1 ≤ 1 + 3 * (12 - dp) by omega) (sg_one (by omega) ⟨gM, ?_⟩)
    rw [z27, z28, if_pos rfl, if_pos rfl, tzM_o (by omega) (by omega), ← x2, w28]
    rcases hC with ⟨a1, a2, a3⟩ | ⟨a1, a2⟩
    · exact Or.inl ⟨g13.trans a2, a1, a3.symm⟩
    · exact Or.inr (Or.inr (Or.inr (Or.inr (Or.inl ⟨g13.trans a2, a1⟩))))
/-- the class at a number or time, with nodes enough -/
theorem lit_f {k : Int32} {g : zσ → Option zσ} (hn : 5000 ≤ n) (hS : S0 U len x y s0 t0) (h : ER U len x y s0 t0 K np tz G bl ub q dp nd cd us s t) (hk0 : ¬ tkKind U len q = 0) (he : nd = 400) : fw (FC len x s0 3 q) (f52_115 n g k s) := by
  have hx := hS.1
  obtain ⟨n1, n2, n3⟩ := h.2.2.2.2.1
  obtain ⟨k1, k2, k3⟩ := h.2.2.2.2.2.1
  subst he
  unfold f52_115
  rw [ER_5 hS h, grd (gck9 hx).2.1]
  simp only [y0s]
  have key : ∀ u, BC len x s0 u → CG U len q u → u.1 (x + 19) 10 = nI 400 → fw (FC len x s0 3 q) (f58 n u) := fun u hb hc e => by
    obtain ⟨s2, e1, g1⟩ := c_refuse (n := n) (f := 3) hc
    unfold f58
    rw [(BC_rf hS hb).2.1, grd (gck9 hx).2.1, e, if_neg (show ¬ nI 400 < 400 by decide), show f32 n 3 u = _ from e1]
    refine ⟨s2, rfl, ?_, ?_⟩
    · have e2 : s2.1 1001 2 = u.1 1001 2 ∧ s2.1 1001 3 = u.1 1001 3 := by
        unfold f32 f32_27 at e1
        split at e1
        · cases e1; exact ⟨rfl, rfl⟩
        · split at e1
          · cases e1
            exact ⟨by rw [hIk (by decide), hIo (by decide), hIo (by decide)], by rw [hIk (by decide), hIo (by decide), hIo (by decide)]⟩
          · cases e1
            exact ⟨by rw [hIk (by decide), hIo (by decide), hIo (by decide)], by rw [hIk (by decide), hIo (by decide), hIo (by decide)]⟩
      refine BC_of hS hb (frE_R hx g1.2) ?_ ?_ ?_
      · rw [e2.1]; exact CG_2 hc
      · rw [e2.2]; exact CG_3 hc
      · rw [g1.2.1 (x + 19) (by omega) (by omega)]; exact hb.2.2.2
    · rw [zft_3 hk0] at g1; exact g1.1
  by_cases hlt : cd < 400
  · rw [f54_v k1 hlt, yb0_s]
    refine key _ ?_ (CG_I (by omega) (by omega) (by omega) (CG_I (by omega) (by omega) (by omega) (CG_I (by omega) (by omega) (by omega) h.1.2))) (by rw [hIk (by decide), hIo (by omega), hIo (by omega)]; exact n1)
    refine BC_of hS h.1.1 (frE_tr (frE_tr (frE_I hx (by omega)) (frE_I hx (by omega))) (frE_I hx (by omega))) ?_ ?_ ⟨cd + 1, by omega, hIe⟩
    · rw [hIo (by omega), hIo (by omega), hIo (by omega)]; exact CG_2 h.1.2
    · rw [hIo (by omega), hIo (by omega), hIo (by omega)]; exact CG_3 h.1.2
  · have e : f54 n (x + 19) k (s.1 1001 6) s = some s := by
      unfold f54
      rw [k1, if_neg (show ¬ nI cd < 400 from nI_nlt (b := 400) (by omega) (by omega))]
    rw [e, yb0_s]
    exact key s h.1.1 h.1.2 n1
end ZPS
