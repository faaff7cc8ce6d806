/-! expressions, both readers: comparisons, brackets, names -/
section ZPR
variable {U : Nat → Nat} {len x y n K np bl ub q dp nd cd us q2 dp2 nd2 cd2 us2 : Nat} {s0 t0 tz s t s2 t2 : zσ} {G : Nat → Nat → Nat}
theorem lb191 {g : zσ → Option zσ} (hn : 5000 ≤ n) (hy : y = 1134 ∨ y = 1170) (hg : ∀ t, bk (fun u => u) (LR np y tz) (g t) t) (t : zσ) : bk (fun u => u) (LR np y tz) (f191_38 n g t) t := by
  unfold f191_38
  repeat' (first | (with_reducible exact b192 hn hy hg _) | (with_reducible exact b195 hy) | (with_reducible exact b164 hy) | (with_reducible exact b196 hy) | (with_reducible exact b182 hy) | (with_reducible exact b179 hy) | (with_reducible exact b172 hy) | (with_reducible exact b173 hy (by decide)) | (with_reducible exact b189 hn hy) | (with_reducible exact b190 hn hy _) | (with_reducible exact b178 hy) | (with_reducible exact bk_none) | (with_reducible exact bk_some LR_rf) | (with_reducible refine bk_ite (fun _ => ?_) (fun _ => ?_)) | (with_reducible refine bk_rdL ?_) | (with_reducible refine bk_zS LR_tr (LR_I ?_ ?_ ?_ ?_) ?_) | (with_reducible refine bk_zS LR_tr (LR_J ?_ ?_) ?_) | (with_reducible refine bk_zV ?_) | (with_reducible refine bk_y0 LR_tr ?_ (fun _ => ?_)) | (with_reducible refine bk_y1 LR_tr ?_ (fun _ _ => ?_)) | (with_reducible exact bk_pu pu_167 _) | (with_reducible exact bk_pu pu_177 _) | (with_reducible refine bk_pu (pu_170 hn ?_) _) | (with_reducible exact bk_pu (pu_175 hn) _) | (omega) | (decide))
theorem pr49 {g g2 : zσ → Option zσ} {D : Nat} (hQ : HQ n U len x y s0 t0 K tz G ub) (hg : ∀ t, bk (fun u => u) (LR np y tz) (g2 t) t) (hB : EB n U len x y s0 t0 K np tz G bl ub 3 D (f50 n g) (f192 n g2)) : EB n U len x y s0 t0 K np tz G bl ub 4 D (f49 n g) (f191 n g2) := by
  obtain ⟨hn, hS, -⟩ := id hQ
  obtain ⟨hB1, hB2, hB3, hB4⟩ := id hB
  have hx := hS.1
  have hy := hS.2.1
  refine ⟨fun q dp nd cd us s t hD h H => ?_, fun f z s h => fw_y0 (hB2 f z s h) (fun u hu => ?_), fun f z t h => fw_y0 (hB3 f z t h) (fun u hu => ?_), fun t => b191 hn hy hg t⟩
  rotate_left
  · repeat' (first | (with_reducible assumption) | (with_reducible refine fw_some ?_) | (with_reducible exact ⟨rfl, by assumption⟩) | (with_reducible refine fcs_r5 hS (by assumption) ?_) | (with_reducible refine fcs_r6 hS (by assumption) ?_) | (with_reducible refine fcs_r4 hS (by assumption) ?_) | (with_reducible refine fcs_32 (by assumption) ?_) | (with_reducible refine fcs_26 (by assumption) ?_) | (with_reducible refine fcs_37 (by assumption) ?_ ?_) | (with_reducible refine fcs_39 (by assumption) ?_ ?_) | (with_reducible refine fcs_41 (by assumption) ?_ ?_) | (with_reducible refine fcs_57 (by assumption) ?_) | (with_reducible refine fcs_58 hS (by assumption) ?_) | (with_reducible refine fcs_53 hS (by assumption) (fun _ _ => ?_)) | (with_reducible refine fcs_54 hx (by assumption) (fun _ _ => ?_)) | (with_reducible refine fcs_I (by assumption) hx ?_ ?_ ?_ (fun _ => ?_)) | (with_reducible refine fw_z ?_) | (with_reducible refine fw_i1 rfl ?_) | (with_reducible refine fw_i1 (by assumption) ?_) | (with_reducible refine fw_i0 (by assumption) ?_) | (with_reducible refine fw_i0 (fc_k (by assumption) ?_) ?_) | (with_reducible refine fcs_k (by assumption) ?_) | (refine fw_i0 (by decide) ?_) | (refine fw_i1 (by decide) ?_) | (omega) | (decide))
  · repeat' (first | (with_reducible assumption) | (with_reducible refine fw_some ?_) | (with_reducible exact ⟨rfl, by assumption⟩) | (with_reducible refine fms_rd hS (by assumption) ?_) | (with_reducible refine fms_167 (by assumption) ?_) | (with_reducible refine fms_173 (by assumption) ?_) | (with_reducible refine fms_172 (by assumption) ?_) | (with_reducible refine fms_179 (by assumption) ?_) | (with_reducible refine fms_164 hn hS (by assumption) (fun _ _ => ?_)) | (with_reducible refine fms_196 (by assumption) ?_) | (with_reducible refine fms_195 hS (by assumption) ?_) | (with_reducible refine fms_182 hS (by assumption) (fun _ _ => ?_)) | (with_reducible refine fms_189 (by assumption) ?_) | (with_reducible refine fms_190 (by assumption) ?_) | (with_reducible refine fms_178 (by assumption) ?_) | (with_reducible refine fms_I (by assumption) hy ?_ (fun _ => ?_)) | (with_reducible refine fw_z ?_) | (with_reducible refine fw_i1 rfl ?_) | (with_reducible refine fw_i1 (by assumption) ?_) | (with_reducible refine fw_i0 (by assumption) ?_) | (refine fw_i0 (by decide) ?_) | (refine fw_i1 (by decide) ?_) | (omega) | (decide))
  refine st00 H (ER_y hS h) (hB4 t) (fun u => ?_) (hB1 _ _ _ _ _ _ _ hD h) (fun f z a hF => ?_) (fun f z b hM => ?_) (fun s1 t1 hA H2 => ?_)
  · repeat' (first | (with_reducible exact lb191 hn hy hg _) | (with_reducible exact b195 hy) | (with_reducible exact b164 hy) | (with_reducible exact b196 hy) | (with_reducible exact b182 hy) | (with_reducible exact b179 hy) | (with_reducible exact b172 hy) | (with_reducible exact b173 hy (by decide)) | (with_reducible exact b189 hn hy) | (with_reducible exact b190 hn hy _) | (with_reducible exact b178 hy) | (with_reducible exact bk_none) | (with_reducible exact bk_some LR_rf) | (with_reducible refine bk_ite (fun _ => ?_) (fun _ => ?_)) | (with_reducible refine bk_rdL ?_) | (with_reducible refine bk_zS LR_tr (LR_I ?_ ?_ ?_ ?_) ?_) | (with_reducible refine bk_zS LR_tr (LR_J ?_ ?_) ?_) | (with_reducible refine bk_zV ?_) | (with_reducible refine bk_y0 LR_tr ?_ (fun _ => ?_)) | (with_reducible refine bk_y1 LR_tr ?_ (fun _ _ => ?_)) | (with_reducible exact bk_pu pu_167 _) | (with_reducible exact bk_pu pu_177 _) | (with_reducible refine bk_pu (pu_170 hn ?_) _) | (with_reducible exact bk_pu (pu_175 hn) _) | (omega) | (decide))
  · repeat' (first | (with_reducible assumption) | (with_reducible refine fw_some ?_) | (with_reducible exact ⟨rfl, by assumption⟩) | (with_reducible refine fcs_r5 hS (by assumption) ?_) | (with_reducible refine fcs_r6 hS (by assumption) ?_) | (with_reducible refine fcs_r4 hS (by assumption) ?_) | (with_reducible refine fcs_32 (by assumption) ?_) | (with_reducible refine fcs_26 (by assumption) ?_) | (with_reducible refine fcs_37 (by assumption) ?_ ?_) | (with_reducible refine fcs_39 (by assumption) ?_ ?_) | (with_reducible refine fcs_41 (by assumption) ?_ ?_) | (with_reducible refine fcs_57 (by assumption) ?_) | (with_reducible refine fcs_58 hS (by assumption) ?_) | (with_reducible refine fcs_53 hS (by assumption) (fun _ _ => ?_)) | (with_reducible refine fcs_54 hx (by assumption) (fun _ _ => ?_)) | (with_reducible refine fcs_I (by assumption) hx ?_ ?_ ?_ (fun _ => ?_)) | (with_reducible refine fw_z ?_) | (with_reducible refine fw_i1 rfl ?_) | (with_reducible refine fw_i1 (by assumption) ?_) | (with_reducible refine fw_i0 (by assumption) ?_) | (with_reducible refine fw_i0 (fc_k (by assumption) ?_) ?_) | (with_reducible refine fcs_k (by assumption) ?_) | (refine fw_i0 (by decide) ?_) | (refine fw_i1 (by decide) ?_) | (omega) | (decide))
  · repeat' (first | (with_reducible assumption) | (with_reducible refine fw_some ?_) | (with_reducible exact ⟨rfl, by assumption⟩) | (with_reducible refine fms_rd hS (by assumption) ?_) | (with_reducible refine fms_167 (by assumption) ?_) | (with_reducible refine fms_173 (by assumption) ?_) | (with_reducible refine fms_172 (by assumption) ?_) | (with_reducible refine fms_179 (by assumption) ?_) | (with_reducible refine fms_164 hn hS (by assumption) (fun _ _ => ?_)) | (with_reducible refine fms_196 (by assumption) ?_) | (with_reducible refine fms_195 hS (by assumption) ?_) | (with_reducible refine fms_182 hS (by assumption) (fun _ _ => ?_)) | (with_reducible refine fms_189 (by assumption) ?_) | (with_reducible refine fms_190 (by assumption) ?_) | (with_reducible refine fms_178 (by assumption) ?_) | (with_reducible refine fms_I (by assumption) hy ?_ (fun _ => ?_)) | (with_reducible refine fw_z ?_) | (with_reducible refine fw_i1 rfl ?_) | (with_reducible refine fw_i1 (by assumption) ?_) | (with_reducible refine fw_i0 (by assumption) ?_) | (refine fw_i0 (by decide) ?_) | (refine fw_i1 (by decide) ?_) | (omega) | (decide))
  obtain ⟨q2, nd2, cd2, us2, hP⟩ := hA
  have hE := hP.2.2.1.2
  obtain ⟨hq, hU, hl⟩ := ER_q hE
  have hM := hE.2.1.2
  have g61 : f177 n 61 t1 = some (zone (decide (tkKind U len q2 = 61)), t1) := tm_sign (c := 61) hM.1 (by decide) (by decide)
  have g60 : f177 n 60 t1 = some (zone (decide (tkKind U len q2 = 60)), t1) := tm_sign (c := 60) hM.1 (by decide) (by decide)
  have g62 : f177 n 62 t1 = some (zone (decide (tkKind U len q2 = 62)), t1) := tm_sign (c := 62) hM.1 (by decide) (by decide)
  by_cases hk : tkKind U len q2 = 61 ∨ tkKind U len q2 = 60 ∨ tkKind U len q2 = 62
  · obtain ⟨c, hc, ek⟩ : ∃ c, (c = 61 ∨ c = 60 ∨ c = 62) ∧ tkKind U len q2 = nI c := by
      rcases hk with e | e | e
      · exact ⟨61, by omega, e⟩
      · exact ⟨60, by omega, e⟩
      · exact ⟨62, by omega, e⟩
    have hcs : zsg c = true ∧ c < 126 := by rcases hc with rfl | rfl | rfl <;> decide
    obtain ⟨hql, hk0⟩ := tk_sg hcs.1 hcs.2 hE ek
    have hgt := tkNx_gt (U := U) hql
    have e1 : (zlet (s1.1 1001 4) fun v2 => if v2 = (61 : Int32) then f49_30 n g v2 s1 else if v2 = (60 : Int32) then f49_30 n g v2 s1 else if v2 = (62 : Int32) then f49_30 n g v2 s1 else some s1) = yb0 (f58 n s1) fun u1 => yb0 (f50 n g u1) fun u2 => zrd 6 (u2.2.2 1004 5) fun a3 => yb0 (f54 n a3 (nI c) 0 u2) fun u4 => some u4 := by
      show (if s1.1 1001 4 = (61 : Int32) then f49_30 n g (s1.1 1001 4) s1 else if s1.1 1001 4 = (60 : Int32) then f49_30 n g (s1.1 1001 4) s1 else if s1.1 1001 4 = (62 : Int32) then f49_30 n g (s1.1 1001 4) s1 else some s1) = _
      rw [ER_k hE, ek]
      rcases hc with rfl | rfl | rfl <;> rfl
    have e2 : (yb1 (f167 n t1) fun v3 u2 => if v3 = (0 : Int32) then some u2 else yb1 (f177 n (61 : Int32) u2) fun v5 u4 => if v5 = (0 : Int32) then yb1 (f177 n (60 : Int32) u4) fun v7 u6 => if v7 = (0 : Int32) then yb1 (f177 n (62 : Int32) u6) fun v9 u8 => if v9 = (0 : Int32) then some u8 else f191_38 n g2 u8 else f191_38 n g2 u6 else f191_38 n g2 u4) = yb0 (yb0 (f195 n t1) (f164 n)) fun u3 => yb0 (f192 n g2 u3) fun u4 => yb0 (f196 n (7 : Int32) (nI c) u4) fun u5 => some u5 := by
      rw [← y00, m_goes hM.2, yb1_s, if_neg (by decide), ← m_sgn hcs.1 hcs.2 hE ek]
      rcases hk with e | e | e
      · rw [g61, yb1_s, zone_1 e, if_neg (by decide)]; rfl
      · rw [g61, yb1_s, zone_0 (show ¬ tkKind U len q2 = 61 by rw [e]; decide), if_pos rfl, g60, yb1_s, zone_1 e, if_neg (by decide)]; rfl
      · rw [g61, yb1_s, zone_0 (show ¬ tkKind U len q2 = 61 by rw [e]; decide), if_pos rfl, g60, yb1_s, zone_0 (show ¬ tkKind U len q2 = 60 by rw [e]; decide), if_pos rfl, g62, yb1_s, zone_1 e, if_neg (by decide)]; rfl
    rw [e2] at H2 ⊢
    rw [e1]
    refine st00 H2 (ER_y hS hE) (bk_y0 LR_tr (b195 hy) (fun u => b164 hy)) (fun u => ?_) (er_node hn hS hE hk0) (fun f z a hF => ?_) (fun f z b hM => ?_) (fun s2 t2 hA H3 => ?_)
    · repeat' (first | (with_reducible exact hB4 _) | (with_reducible exact b195 hy) | (with_reducible exact b164 hy) | (with_reducible exact b196 hy) | (with_reducible exact b182 hy) | (with_reducible exact b179 hy) | (with_reducible exact b172 hy) | (with_reducible exact b173 hy (by decide)) | (with_reducible exact b189 hn hy) | (with_reducible exact b190 hn hy _) | (with_reducible exact b178 hy) | (with_reducible exact bk_none) | (with_reducible exact bk_some LR_rf) | (with_reducible refine bk_ite (fun _ => ?_) (fun _ => ?_)) | (with_reducible refine bk_rdL ?_) | (with_reducible refine bk_zS LR_tr (LR_I ?_ ?_ ?_ ?_) ?_) | (with_reducible refine bk_zS LR_tr (LR_J ?_ ?_) ?_) | (with_reducible refine bk_zV ?_) | (with_reducible refine bk_y0 LR_tr ?_ (fun _ => ?_)) | (with_reducible refine bk_y1 LR_tr ?_ (fun _ _ => ?_)) | (with_reducible exact bk_pu pu_167 _) | (with_reducible exact bk_pu pu_177 _) | (with_reducible refine bk_pu (pu_170 hn ?_) _) | (with_reducible exact bk_pu (pu_175 hn) _) | (omega) | (decide))
    · repeat' (first | (with_reducible refine fw_y0 (hB2 _ _ _ (by assumption)) (fun _ _ => ?_)) | (with_reducible assumption) | (with_reducible refine fw_some ?_) | (with_reducible exact ⟨rfl, by assumption⟩) | (with_reducible refine fcs_r5 hS (by assumption) ?_) | (with_reducible refine fcs_r6 hS (by assumption) ?_) | (with_reducible refine fcs_r4 hS (by assumption) ?_) | (with_reducible refine fcs_32 (by assumption) ?_) | (with_reducible refine fcs_26 (by assumption) ?_) | (with_reducible refine fcs_37 (by assumption) ?_ ?_) | (with_reducible refine fcs_39 (by assumption) ?_ ?_) | (with_reducible refine fcs_41 (by assumption) ?_ ?_) | (with_reducible refine fcs_57 (by assumption) ?_) | (with_reducible refine fcs_58 hS (by assumption) ?_) | (with_reducible refine fcs_53 hS (by assumption) (fun _ _ => ?_)) | (with_reducible refine fcs_54 hx (by assumption) (fun _ _ => ?_)) | (with_reducible refine fcs_I (by assumption) hx ?_ ?_ ?_ (fun _ => ?_)) | (with_reducible refine fw_z ?_) | (with_reducible refine fw_i1 rfl ?_) | (with_reducible refine fw_i1 (by assumption) ?_) | (with_reducible refine fw_i0 (by assumption) ?_) | (with_reducible refine fw_i0 (fc_k (by assumption) ?_) ?_) | (with_reducible refine fcs_k (by assumption) ?_) | (refine fw_i0 (by decide) ?_) | (refine fw_i1 (by decide) ?_) | (omega) | (decide))
    · repeat' (first | (with_reducible refine fw_y0 (hB3 _ _ _ (by assumption)) (fun _ _ => ?_)) | (with_reducible assumption) | (with_reducible refine fw_some ?_) | (with_reducible exact ⟨rfl, by assumption⟩) | (with_reducible refine fms_rd hS (by assumption) ?_) | (with_reducible refine fms_167 (by assumption) ?_) | (with_reducible refine fms_173 (by assumption) ?_) | (with_reducible refine fms_172 (by assumption) ?_) | (with_reducible refine fms_179 (by assumption) ?_) | (with_reducible refine fms_164 hn hS (by assumption) (fun _ _ => ?_)) | (with_reducible refine fms_196 (by assumption) ?_) | (with_reducible refine fms_195 hS (by assumption) ?_) | (with_reducible refine fms_182 hS (by assumption) (fun _ _ => ?_)) | (with_reducible refine fms_189 (by assumption) ?_) | (with_reducible refine fms_190 (by assumption) ?_) | (with_reducible refine fms_178 (by assumption) ?_) | (with_reducible refine fms_I (by assumption) hy ?_ (fun _ => ?_)) | (with_reducible refine fw_z ?_) | (with_reducible refine fw_i1 rfl ?_) | (with_reducible refine fw_i1 (by assumption) ?_) | (with_reducible refine fw_i0 (by assumption) ?_) | (refine fw_i0 (by decide) ?_) | (refine fw_i1 (by decide) ?_) | (omega) | (decide))
    refine st00 H3 (ER_y hS hA.2.2) (hB4 _) (fun u => ?_) (hB1 _ _ _ _ _ _ _ hD hA.2.2) (fun f z a hF => ?_) (fun f z b hM => ?_) (fun s3 t3 hA2 H4 => ?_)
    · repeat' (first | (with_reducible exact b195 hy) | (with_reducible exact b164 hy) | (with_reducible exact b196 hy) | (with_reducible exact b182 hy) | (with_reducible exact b179 hy) | (with_reducible exact b172 hy) | (with_reducible exact b173 hy (by decide)) | (with_reducible exact b189 hn hy) | (with_reducible exact b190 hn hy _) | (with_reducible exact b178 hy) | (with_reducible exact bk_none) | (with_reducible exact bk_some LR_rf) | (with_reducible refine bk_ite (fun _ => ?_) (fun _ => ?_)) | (with_reducible refine bk_rdL ?_) | (with_reducible refine bk_zS LR_tr (LR_I ?_ ?_ ?_ ?_) ?_) | (with_reducible refine bk_zS LR_tr (LR_J ?_ ?_) ?_) | (with_reducible refine bk_zV ?_) | (with_reducible refine bk_y0 LR_tr ?_ (fun _ => ?_)) | (with_reducible refine bk_y1 LR_tr ?_ (fun _ _ => ?_)) | (with_reducible exact bk_pu pu_167 _) | (with_reducible exact bk_pu pu_177 _) | (with_reducible refine bk_pu (pu_170 hn ?_) _) | (with_reducible exact bk_pu (pu_175 hn) _) | (omega) | (decide))
    · repeat' (first | (with_reducible assumption) | (with_reducible refine fw_some ?_) | (with_reducible exact ⟨rfl, by assumption⟩) | (with_reducible refine fcs_r5 hS (by assumption) ?_) | (with_reducible refine fcs_r6 hS (by assumption) ?_) | (with_reducible refine fcs_r4 hS (by assumption) ?_) | (with_reducible refine fcs_32 (by assumption) ?_) | (with_reducible refine fcs_26 (by assumption) ?_) | (with_reducible refine fcs_37 (by assumption) ?_ ?_) | (with_reducible refine fcs_39 (by assumption) ?_ ?_) | (with_reducible refine fcs_41 (by assumption) ?_ ?_) | (with_reducible refine fcs_57 (by assumption) ?_) | (with_reducible refine fcs_58 hS (by assumption) ?_) | (with_reducible refine fcs_53 hS (by assumption) (fun _ _ => ?_)) | (with_reducible refine fcs_54 hx (by assumption) (fun _ _ => ?_)) | (with_reducible refine fcs_I (by assumption) hx ?_ ?_ ?_ (fun _ => ?_)) | (with_reducible refine fw_z ?_) | (with_reducible refine fw_i1 rfl ?_) | (with_reducible refine fw_i1 (by assumption) ?_) | (with_reducible refine fw_i0 (by assumption) ?_) | (with_reducible refine fw_i0 (fc_k (by assumption) ?_) ?_) | (with_reducible refine fcs_k (by assumption) ?_) | (refine fw_i0 (by decide) ?_) | (refine fw_i1 (by decide) ?_) | (omega) | (decide))
    · repeat' (first | (with_reducible assumption) | (with_reducible refine fw_some ?_) | (with_reducible exact ⟨rfl, by assumption⟩) | (with_reducible refine fms_rd hS (by assumption) ?_) | (with_reducible refine fms_167 (by assumption) ?_) | (with_reducible refine fms_173 (by assumption) ?_) | (with_reducible refine fms_172 (by assumption) ?_) | (with_reducible refine fms_179 (by assumption) ?_) | (with_reducible refine fms_164 hn hS (by assumption) (fun _ _ => ?_)) | (with_reducible refine fms_196 (by assumption) ?_) | (with_reducible refine fms_195 hS (by assumption) ?_) | (with_reducible refine fms_182 hS (by assumption) (fun _ _ => ?_)) | (with_reducible refine fms_189 (by assumption) ?_) | (with_reducible refine fms_190 (by assumption) ?_) | (with_reducible refine fms_178 (by assumption) ?_) | (with_reducible refine fms_I (by assumption) hy ?_ (fun _ => ?_)) | (with_reducible refine fw_z ?_) | (with_reducible refine fw_i1 rfl ?_) | (with_reducible refine fw_i1 (by assumption) ?_) | (with_reducible refine fw_i0 (by assumption) ?_) | (refine fw_i0 (by decide) ?_) | (refine fw_i1 (by decide) ?_) | (omega) | (decide))
    obtain ⟨q3, nd3, cd3, us3, hP3⟩ := hA2
    have hb := hP3.2.1
    have hcn := hE.2.2.2.2.2.1.2.2
    rw [ER_5 hS hP3.2.2.1.2, grd (gck9 hx).2.1]
    rw [y0s] at H4 ⊢
    rw [y0s]
    refine Rs_w (er_emit hS hP3.2.2.1.2 (by omega) H4) (fun a b _ _ hab => ⟨q3, nd3, cd3 + 1, us3, EP_op (hm1 := 3 + 3 * (12 - dp)) hQ (by omega) (by omega) (by omega) hP hql hA.2 hP3 hab.1 hab.2⟩)
  · refine Rs_A (a := s1) (b := t1) ?_ ?_ ⟨q2, nd2, cd2, us2, EP_up (by omega) hP⟩
    · show (if s1.1 1001 4 = (61 : Int32) then f49_30 n g (s1.1 1001 4) s1 else if s1.1 1001 4 = (60 : Int32) then f49_30 n g (s1.1 1001 4) s1 else if s1.1 1001 4 = (62 : Int32) then f49_30 n g (s1.1 1001 4) s1 else some s1) = _
      rw [ER_k hE, if_neg (fun e => hk (Or.inl e)), if_neg (fun e => hk (Or.inr (Or.inl e))), if_neg (fun e => hk (Or.inr (Or.inr e)))]
    · rw [m_goes hM.2, yb1_s, if_neg (by decide), g61, yb1_s, zone_0 (fun e => hk (Or.inl e)), if_pos rfl, g60, yb1_s, zone_0 (fun e => hk (Or.inr (Or.inl e))), if_pos rfl, g62, yb1_s, zone_0 (fun e => hk (Or.inr (Or.inr e))), if_pos rfl]
theorem EB_mono {g g2 : zσ → Option zσ} {e D D2 : Nat} (hD : D ≤ D2) (h : EB n U len x y s0 t0 K np tz G bl ub e D g g2) : EB n U len x y s0 t0 K np tz G bl ub e D2 g g2 := ⟨fun q dp nd cd us s t hd => h.1 q dp nd cd us s t (by omega), h.2⟩
/-- into a level -/
theorem Lt_14 {v : Int32} (hy : y = 1134 ∨ y = 1170) (h : Lt np y t tz) : Lt np y (sI t 1132 14 v) tz := by
  obtain ⟨a1, a2, a3, a4, a5, a6, a7⟩ := h
  have g : ∀ b, b ≠ 1132 → (sI t 1132 14 v).1 b = t.1 b := fun b hb => hIo hb
  unfold Lt
  rw [g y (by omega), g (y + 25) (by omega), g (y + 26) (by omega), g (y + 27) (by omega), g (y + 28) (by omega), g (y + 30) (by omega), g (y + 31) (by omega), g (y + 32) (by omega), g (y + 11) (by omega)]
  exact ⟨by rw [hIk (by decide)]; exact a1, a2, a3, a4, a5, a6, a7⟩
theorem er_dp {v : Nat} (hS : S0 U len x y s0 t0) (hv : v ≤ 12) (h : ER U len x y s0 t0 K np tz G bl ub q dp nd cd us s t) : EN U len x y s0 t0 K np tz G bl ub cd us q v nd cd us s t (sI s 1004 9 (nI v)) (sI t 1132 14 (nI v)) := by
  have hx := hS.1
  have hy := hS.2.1
  obtain ⟨-, -, -, ⟨d1, d2, d3⟩, ⟨n1, n2, n3⟩, ⟨k1, k2, k3⟩, ⟨u1, u2⟩, hK⟩ := id h
  have o1 : frE x s (sI s 1004 9 (nI v)) := frE_I hx (by omega)
  have o2 : frM y t (sI t 1132 14 (nI v)) := frM_I hy (by omega)
  refine ⟨EC_of o1 o2 (hIo (by omega)) (hIo (by omega)) (hIo (by omega)), ER_of hS h o1 o2 (CG_I (by omega) (by omega) (by omega) h.1.2) (MG_I (by omega) (by omega) h.2.1.2) hIe hIe hv ?_ ?_ n3 ?_ ?_ k3 ?_ u2 (fun e => ⟨Lt_14 hy (hK e).1, (hK e).2.1⟩)⟩
  · rw [hIo (by omega)]; exact n1
  · rw [hIo (by omega)]; exact n2
  · rw [hIo (by omega)]; exact k1
  · rw [hIo (by omega)]; exact k2
  · rw [hIo (by omega)]; exact u1
theorem er_close (hS : S0 U len x y s0 t0) (h : ER U len x y s0 t0 K np tz G bl ub q (dp + 1) nd cd us s t) : EN U len x y s0 t0 K np tz G bl ub cd us q dp nd cd us s t (sI s 1004 9 (s.1 1004 9 - 1)) (sI t 1132 14 (t.1 1132 14 - 1)) := by
  have e := h.2.2.2.1
  rw [e.1, e.2.1, nI_pred]
  exact er_dp hS (by omega) h
theorem er_182 (hS : S0 U len x y s0 t0) (h : ER U len x y s0 t0 K np tz G bl ub q dp nd cd us s t) : (dp < 12 → f182 n t = some (sI t 1132 14 (nI (dp + 1)))) ∧ (dp = 12 → ∃ t2, f182 n t = some t2 ∧ FM len y t0 3 q t2) := by
  obtain ⟨d1, d2, d3⟩ := h.2.2.2.1
  unfold f182 f182_25
  rw [m_goes h.2.1.2.2, yb1_s, if_neg (by decide), d2]
  constructor
  · intro hlt
    rw [if_neg (fun e => by have := (nI_eq (a := dp) (b := 12) (by omega) (by decide)).mp e; omega)]
    show some (sI t 1132 14 (nI dp + 1)) = _
    rw [nI_1]
  · intro e
    subst e
    obtain ⟨t2, e2, g2⟩ := er_wrong (n := n) (f := 3) hS (by decide) h
    rw [if_pos (show nI 12 = 12 from rfl), show f173 n 3 (t.1 1132 4) t = _ from e2]
    exact ⟨_, rfl, FM_I hS.2.1 (by omega) g2⟩
theorem er_41 (hn : 5000 ≤ n) (hS : S0 U len x y s0 t0) (h : ER U len x y s0 t0 K np tz G bl ub q dp nd cd us s t) {c : Nat} (hk : tkKind U len q = nI c) (hk0 : ¬ tkKind U len q = 0) : (dp < 12 → f41 n (nI c) s = yb0 (f26 n (sI s 1004 9 (nI (dp + 1)))) fun u => some (1, u)) ∧ (dp = 12 → ∃ s2, f41 n (nI c) s = some (0, s2) ∧ FC len x s0 3 q s2) := by
  obtain ⟨d1, d2, d3⟩ := h.2.2.2.1
  unfold f41
  rw [ER_k h, if_pos hk, d1]
  constructor
  · intro hlt
    rw [if_pos (show nI dp < 12 from nI_lt (b := 12) hlt (by decide)), ← nI_1]
    rfl
  · intro e
    obtain ⟨s2, e1, g1⟩ := er_ref (n := n) (f := 3) hS h
    rw [zft_3 hk0] at g1
    rw [if_neg (show ¬ nI dp < 12 from nI_nlt (b := 12) (by omega) (by omega)), show f32 n 3 s = _ from e1]
    exact ⟨s2, rfl, g1⟩
theorem er_open {α β : Type} {pm : β → zσ} {F2 : Nat → Nat → α → Prop} {M2 : Nat → Nat → β → Prop} {B : α → β → Prop} {c : Nat} {kc : zσ → Option α} {km : zσ → Option β} {vc : zσ → α} {vm : zσ → β} (hn : 5000 ≤ n) (hS : S0 U len x y s0 t0) (h : ER U len x y s0 t0 K np tz G bl ub q dp nd cd us s t) (hk : tkKind U len q = nI c) (hk0 : ¬ tkKind U len q = 0) (H : Hb pm K np y tz (yb0 (f182 n t) fun u => yb1 (f167 n u) fun v u2 => if v = (0 : Int32) then some (vm u2) else yb0 (f164 n u2) km)) (hkm : ∀ u, bk pm (LR np y tz) (km u) u) (hF : ∀ f z u, FC len x s0 f z u → F2 f z (vc u)) (hM : ∀ f z u, FM len y t0 f z u → M2 f z (vm u)) (hA : dp < 12 → ∀ a b, EN U len x y s0 t0 K np tz G bl ub cd us (tkNx U len q) (dp + 1) nd cd us s t a b → Hb pm K np y tz (km b) → Rs F2 M2 (ZB K y tz) B (kc a) (km b)) (hF2 : dp < 12 → ∀ f z u, FC len x s0 f z u → fw (F2 f z) (kc u)) (hM2 : dp < 12 → ∀ f z u, FM len y t0 f z u → fw (M2 f z) (km u)) : Rs F2 M2 (ZB K y tz) B (yb1 (f41 n (nI c) s) fun v u => if v = (0 : Int32) then some (vc u) else kc u) (yb0 (f182 n t) fun u => yb1 (f167 n u) fun v u2 => if v = (0 : Int32) then some (vm u2) else yb0 (f164 n u2) km) := by
  have d3 := h.2.2.2.1.2.2
  rcases Nat.lt_or_ge dp 12 with hlt | hge
  · obtain ⟨c1, h1⟩ := er_dp (v := dp + 1) hS (by omega) h
    have e2 : (yb0 (f182 n t) fun u => yb1 (f167 n u) fun v u2 => if v = (0 : Int32) then some (vm u2) else yb0 (f164 n u2) km) = yb0 (f164 n (sI t 1132 14 (nI (dp + 1)))) km := by
      rw [(er_182 hS h).1 hlt, yb0_s, m_goes h1.2.1.2.2, yb1_s, if_neg (by decide)]
    have e1 : (yb1 (f41 n (nI c) s) fun v u => if v = (0 : Int32) then some (vc u) else kc u) = yb0 (f26 n (sI s 1004 9 (nI (dp + 1)))) kc := by
      rw [(er_41 hn hS h hk hk0).1 hlt]
      cases f26 n (sI s 1004 9 (nI (dp + 1))) <;> rfl
    rw [e2] at H ⊢
    rw [e1]
    refine st00 H (ER_y hS h1) (b164 hS.2.1) hkm (er_next hn hS h1) (hF2 hlt) (hM2 hlt) (fun a b hab H2 => hA hlt a b ⟨EC_tr c1 hab.1 (by omega) (by omega), hab.2⟩ H2)
  · obtain ⟨t2, e2, g2⟩ := (er_182 (n := n) hS h).2 (by omega)
    obtain ⟨s2, e1, g1⟩ := (er_41 hn hS h hk hk0).2 (by omega)
    refine Rs_B (f := 3) (z := q) ⟨vc s2, ?_, hF _ _ _ g1⟩ ⟨vm t2, ?_, hM _ _ _ g2⟩
    · rw [e1]; rfl
    · rw [e2, yb0_s, m_goes0 (fm_ne g2)]; rfl
/-- what stands behind the token -/
theorem er_peek (hn : 5000 ≤ n) (h : ER U len x y s0 t0 K np tz G bl ub q dp nd cd us s t) : ∃ v, f56 n s = some (v, s) ∧ (v = 91 ↔ tkKind U len (tkNx U len q) = 91) := by
  have hT := h.1.2.1.2.1
  obtain ⟨hq, hU, hl⟩ := ER_q h
  have hle := tkEnd_le (U := U) hq
  refine ⟨if zsk U len (tkEnd U len q) < len then sb (U (zsk U len (tkEnd U len q))) else 0, ?_, ?_⟩
  · show f56_5 n n (s.1 1001 3) s = _
    rw [h.1.2.1.2.2.2.2.1]
    exact peek_L hT _ _ n rfl hle (by omega)
  · show _ ↔ tkKind U len (tkNx U len q) = nI 91
    rw [tk_byte hU (tkNx_le hq) (by decide) (by decide)]
    show _ ↔ tkNx U len q < len ∧ U (tkNx U len q) = 91
    unfold tkNx
    by_cases e : zsk U len (tkEnd U len q) < len
    · rw [if_pos e]
      have := sb_91 ⟨U (zsk U len (tkEnd U len q)), hU _ e⟩
      simp only at this
      rw [this]
      exact ⟨fun h => ⟨e, h⟩, fun h => h.2⟩
    · rw [if_neg e]
      exact ⟨fun h => absurd h (by decide), fun h => absurd h.1 e⟩
theorem Hb_bk {β : Type} {pm : β → zσ} {m : Option β} (H : Hb pm K np y tz m) (hb : bk pm (LR np y tz) m t) (hy : t.2.2 1132 12 = some y) : K = 1 → Lt np y t tz := fun hK => by
  obtain ⟨b, e, hL⟩ := H hK
  exact ((hb b e) hy).2 hL
theorem tk_lt (h : ER U len x y s0 t0 K np tz G bl ub q dp nd cd us s t) (hk : ¬ tkKind U len q = 3) : q < len := by
  obtain ⟨hq, hU, -⟩ := ER_q h
  rcases Nat.lt_or_ge q len with e | e
  · exact e
  · exfalso
    have : q = len := by omega
    subst this
    exact hk (by unfold tkKind; rw [if_pos rfl])
end ZPR
