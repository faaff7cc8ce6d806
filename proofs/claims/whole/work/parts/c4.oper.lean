/-! statements, both readers: operands -/
section ZQC
variable {U : Nat → Nat} {len x y n K np bl ub q dp nd cd us es na nb q2 dp2 nd2 cd2 us2 r nb0 cd0 mE na2 nb2 : Nat} {s0 t0 tz s t s2 t2 s3 t3 sS tS : zσ} {G : Nat → Nat → Nat} {c m L E : Nat → Int32} {cs : Nat → Nat}
theorem op_E {kk : Nat} (hQ : HQ n U len x y s0 t0 K tz G ub) (hr : r < 200) (hc0 : cd0 = cd) (h : ST U len x y s0 t0 K np tz G bl r nb0 cd0 sS tS (4 * r) q dp nd cd us es nb (c0F (nI (zkd kk)) cd bl) (m0F (nI kk)) L E 0 cs s t) (hkk : ¬ nI (zkd kk) = 149 ∧ kk < 29 ∧ kk ≠ 5 ∧ kk ≠ 6 ∧ kk ≠ 0) (hO : K = 1 → OD G y bl tz kk (c0F (nI (zkd kk)) cd bl) (m0F (nI kk)) L 1) (H : Hb (fun u => u) K np y tz (yb1 (f190 n t) fun v2 u1 => zlet (sI u1 (y + 22) (4 * r + 0) v2) fun u3 => some u3)) : Rs (FC len x s0) (FM len y t0) (ZB K y tz) (BO U len x y s0 t0 K np tz G bl r nb0 cd0 sS tS q dp nb) (yb0 (f49 n (f52 n 20) s) (clF n r)) (yb1 (f190 n t) fun v2 u1 => zlet (sI u1 (y + 22) (4 * r + 0) v2) fun u3 => some u3) := by
  obtain ⟨hn, hS, hub, -⟩ := id hQ
  obtain ⟨hz, -⟩ := r4 (r := r) (i := 0) hr (by omega)
  refine st_e (mE := 0) (HQ_ub (ub2 := 4 * r) hQ (by omega)) (by omega) h H (fun u => bk_some LR_rf) (fun f z u hF => fc_cl hn hS hz hF) (fun f z u hM => fw_some hM) (fun q9 nd9 cd9 us9 s9 t9 hq9 _ h9 hu9 har9 H9 => ?_)
  rw [cl_n hS h9 hkk.1]
  exact Rs_A rfl rfl (BO_c (kk := kk) hc0 h9 ⟨by omega, by omega, hkk.2⟩ ⟨rfl, rfl, rfl, rfl, rfl, rfl⟩ (fun hK _ => hO hK))
theorem op_A {kk c1 : Nat} (hQ : HQ n U len x y s0 t0 K tz G ub) (hr : r < 200) (hc0 : cd0 = cd) (hc1 : c1 < 9) (h : ST U len x y s0 t0 K np tz G bl r nb0 cd0 sS tS (4 * r) q dp nd cd us es nb (c0F (nI (zkd kk)) cd bl) (m0F (nI kk)) L E 0 cs s t) (hkk : ¬ nI (zkd kk) = 149 ∧ kk < 29 ∧ kk ≠ 5 ∧ kk ≠ 6 ∧ kk ≠ 0) (hO : K = 1 → ∀ v, uA G y c1 (tzMp tz y) v (nI us) → OD G y bl tz kk (uf (c0F (nI (zkd kk)) cd bl) 1 v) (uf (m0F (nI kk)) 2 (nI us)) L 0) (H : Hb (fun u => u) K np y tz (yb1 (f189 n (nI c1) t) fun v2 u1 => zlet (sI u1 (y + 17) r v2) fun u3 => some u3)) : Rs (FC len x s0) (FM len y t0) (ZB K y tz) (BO U len x y s0 t0 K np tz G bl r nb0 cd0 sS tS q dp nb) (yb1 (f57 n (nI c1) s) fun v u => zlet (sI u (x + 21) r v) fun u => clF n r u) (yb1 (f189 n (nI c1) t) fun v2 u1 => zlet (sI u1 (y + 17) r v2) fun u3 => some u3) := by
  obtain ⟨hn, hS, hub, -⟩ := id hQ
  obtain ⟨hz, -⟩ := r4 (r := r) (i := 0) hr (by omega)
  refine st_u (j := 1) (i := 2) (c0 := c1) (HQ_ub (ub2 := 4 * r) hQ (by omega)) (by omega) (by omega) h hc1 (Or.inl ⟨rfl, rfl⟩) H (fun u => bk_some LR_rf) (fun f z u hF => fc_cl hn hS hz hF) (fun f z u hM => fw_some hM) (fun v a b hk1 h4 hR hv0 har H4 => ?_)
  have := tkNx_gt (U := U) (tk_lt h.1.1 (by rw [hk1]; decide))
  rw [cl_n hS h4 hkk.1]
  exact Rs_A rfl rfl (BO_c (kk := kk) hc0 h4 ⟨by omega, by omega, hkk.2⟩ ⟨rfl, rfl, rfl, rfl, rfl, rfl⟩ (fun hK _ => hO hK v ((hR hK).1.1 c1 hc1 rfl)))
theorem op_AE {kk c1 : Nat} (hQ : HQ n U len x y s0 t0 K tz G ub) (hr : r < 200) (hc0 : cd0 = cd) (hc1 : c1 < 9) (h : ST U len x y s0 t0 K np tz G bl r nb0 cd0 sS tS (4 * r) q dp nd cd us es nb (c0F (nI (zkd kk)) cd bl) (m0F (nI kk)) L E 0 cs s t) (hkk : ¬ nI (zkd kk) = 149 ∧ kk < 29 ∧ kk ≠ 5 ∧ kk ≠ 6 ∧ kk ≠ 0) (hO : K = 1 → ∀ v, uA G y c1 (tzMp tz y) v (nI us) → OD G y bl tz kk (uf (c0F (nI (zkd kk)) cd bl) 1 v) (uf (m0F (nI kk)) 2 (nI us)) L 1) (H : Hb (fun u => u) K np y tz (yb1 (f189 n (nI c1) t) fun v2 u1 => zlet (sI u1 (y + 17) r v2) fun u5 => yb1 (f190 n u5) fun v7 u6 => zlet (sI u6 (y + 22) (4 * r + 0) v7) fun u8 => some u8)) : Rs (FC len x s0) (FM len y t0) (ZB K y tz) (BO U len x y s0 t0 K np tz G bl r nb0 cd0 sS tS q dp nb) (yb1 (f57 n (nI c1) s) fun v u => zlet (sI u (x + 21) r v) fun u => yb0 (f49 n (f52 n 20) u) (clF n r)) (yb1 (f189 n (nI c1) t) fun v2 u1 => zlet (sI u1 (y + 17) r v2) fun u5 => yb1 (f190 n u5) fun v7 u6 => zlet (sI u6 (y + 22) (4 * r + 0) v7) fun u8 => some u8) := by
  obtain ⟨hn, hS, hub, -⟩ := id hQ
  have hy := hS.2.1
  obtain ⟨hz, -⟩ := r4 (r := r) (i := 0) hr (by omega)
  refine st_u (j := 1) (i := 2) (c0 := c1) (HQ_ub (ub2 := 4 * r) hQ (by omega)) (by omega) (by omega) h hc1 (Or.inl ⟨rfl, rfl⟩) H (fun u => ?_) (fun f z u hF => ?_) (fun f z u hM => ?_) (fun v a b hk1 h4 hR hv0 har H4 => ?_)
  · repeat' (first | (with_reducible exact b195 hy) | (with_reducible exact b164 hy) | (with_reducible exact b196 hy) | (with_reducible exact b182 hy) | (with_reducible exact b179 hy) | (with_reducible exact b172 hy) | (with_reducible exact b173 hy (by decide)) | (with_reducible exact b189 hn hy) | (with_reducible exact b190 hn hy _) | (with_reducible exact b178 hy) | (with_reducible exact bk_none) | (with_reducible exact bk_some LR_rf) | (with_reducible refine bk_ite (fun _ => ?_) (fun _ => ?_)) | (with_reducible refine bk_rdL ?_) | (with_reducible refine bk_zS LR_tr (LR_I ?_ ?_ ?_ ?_) ?_) | (with_reducible refine bk_zS LR_tr (LR_J ?_ ?_) ?_) | (with_reducible refine bk_zV ?_) | (with_reducible refine bk_y0 LR_tr ?_ (fun _ => ?_)) | (with_reducible refine bk_y1 LR_tr ?_ (fun _ _ => ?_)) | (with_reducible exact bk_pu pu_167 _) | (with_reducible exact bk_pu pu_177 _) | (with_reducible refine bk_pu (pu_170 hn ?_) _) | (with_reducible exact bk_pu (pu_175 hn) _) | (omega) | (decide))
  · exact fcs_49 hn hS hF (fun u hu => fc_cl hn hS hz hu)
  · repeat' (first | (with_reducible assumption) | (with_reducible refine fw_some ?_) | (with_reducible exact ⟨rfl, by assumption⟩) | (with_reducible refine fms_rd hS (by assumption) ?_) | (with_reducible refine fms_167 (by assumption) ?_) | (with_reducible refine fms_173 (by assumption) ?_) | (with_reducible refine fms_172 (by assumption) ?_) | (with_reducible refine fms_179 (by assumption) ?_) | (with_reducible refine fms_164 hn hS (by assumption) (fun _ _ => ?_)) | (with_reducible refine fms_196 (by assumption) ?_) | (with_reducible refine fms_195 hS (by assumption) ?_) | (with_reducible refine fms_182 hS (by assumption) (fun _ _ => ?_)) | (with_reducible refine fms_189 (by assumption) ?_) | (with_reducible refine fms_190 (by assumption) ?_) | (with_reducible refine fms_178 (by assumption) ?_) | (with_reducible refine fms_I (by assumption) hy ?_ (fun _ => ?_)) | (with_reducible refine fw_z ?_) | (with_reducible refine fw_i1 rfl ?_) | (with_reducible refine fw_i1 (by assumption) ?_) | (with_reducible refine fw_i0 (by assumption) ?_) | (refine fw_i0 (by decide) ?_) | (refine fw_i1 (by decide) ?_) | (omega) | (decide))
  have := tkNx_gt (U := U) (tk_lt h.1.1 (by rw [hk1]; decide))
  refine st_e (mE := 0) (HQ_ub (ub2 := 4 * r + 1) hQ (by omega)) (by omega) h4 H4 (fun u => bk_some LR_rf) (fun f z u hF => fc_cl hn hS hz hF) (fun f z u hM => fw_some hM) (fun q9 nd9 cd9 us9 s9 t9 hq9 _ h9 hu9 har9 H9 => ?_)
  rw [cl_n hS h9 hkk.1]
  exact Rs_A rfl rfl (BO_c (kk := kk) hc0 h9 ⟨by omega, by omega, hkk.2⟩ ⟨rfl, rfl, rfl, rfl, rfl, rfl⟩ (fun hK _ => hO hK v ((hR hK).1.1 c1 hc1 rfl)))
theorem op_AB {kk c1 c2 : Nat} (hQ : HQ n U len x y s0 t0 K tz G ub) (hr : r < 200) (hc0 : cd0 = cd) (hc1 : c1 < 9) (hc2 : c2 < 9) (h : ST U len x y s0 t0 K np tz G bl r nb0 cd0 sS tS (4 * r) q dp nd cd us es nb (c0F (nI (zkd kk)) cd bl) (m0F (nI kk)) L E 0 cs s t) (hkk : ¬ nI (zkd kk) = 149 ∧ kk < 29 ∧ kk ≠ 5 ∧ kk ≠ 6 ∧ kk ≠ 0) (hO : K = 1 → ∀ v w, uA G y c1 (tzMp tz y) v (nI us) → uA G y c2 (tzMp tz y) w (nI (us + 1)) → OD G y bl tz kk (uf (uf (c0F (nI (zkd kk)) cd bl) 1 v) 2 w) (uf (uf (m0F (nI kk)) 2 (nI us)) 3 (nI (us + 1))) L 0) (H : Hb (fun u => u) K np y tz (yb1 (f189 n (nI c1) t) fun v2 u1 => zlet (sI u1 (y + 17) r v2) fun u5 => yb1 (f189 n (nI c2) u5) fun v7 u6 => zlet (sI u6 (y + 18) r v7) fun u8 => some u8)) : Rs (FC len x s0) (FM len y t0) (ZB K y tz) (BO U len x y s0 t0 K np tz G bl r nb0 cd0 sS tS q dp nb) (yb1 (f57 n (nI c1) s) fun v u => zlet (sI u (x + 21) r v) fun u => zrd 6 (u.2.2 1004 5) fun a5 => yb1 (f57 n (nI c2) u) fun v u => zlet (sI u (a5 + 3) r v) fun u => clF n r u) (yb1 (f189 n (nI c1) t) fun v2 u1 => zlet (sI u1 (y + 17) r v2) fun u5 => yb1 (f189 n (nI c2) u5) fun v7 u6 => zlet (sI u6 (y + 18) r v7) fun u8 => some u8) := by
  obtain ⟨hn, hS, hub, -⟩ := id hQ
  have hx := hS.1
  have hy := hS.2.1
  obtain ⟨hz, -⟩ := r4 (r := r) (i := 0) hr (by omega)
  refine st_u (j := 1) (i := 2) (c0 := c1) (HQ_ub (ub2 := 4 * r) hQ (by omega)) (by omega) (by omega) h hc1 (Or.inl ⟨rfl, rfl⟩) H (fun u => ?_) (fun f z u hF => ?_) (fun f z u hM => ?_) (fun v a b hk1 h4 hR hv0 har H4 => ?_)
  · repeat' (first | (with_reducible exact b195 hy) | (with_reducible exact b164 hy) | (with_reducible exact b196 hy) | (with_reducible exact b182 hy) | (with_reducible exact b179 hy) | (with_reducible exact b172 hy) | (with_reducible exact b173 hy (by decide)) | (with_reducible exact b189 hn hy) | (with_reducible exact b190 hn hy _) | (with_reducible exact b178 hy) | (with_reducible exact bk_none) | (with_reducible exact bk_some LR_rf) | (with_reducible refine bk_ite (fun _ => ?_) (fun _ => ?_)) | (with_reducible refine bk_rdL ?_) | (with_reducible refine bk_zS LR_tr (LR_I ?_ ?_ ?_ ?_) ?_) | (with_reducible refine bk_zS LR_tr (LR_J ?_ ?_) ?_) | (with_reducible refine bk_zV ?_) | (with_reducible refine bk_y0 LR_tr ?_ (fun _ => ?_)) | (with_reducible refine bk_y1 LR_tr ?_ (fun _ _ => ?_)) | (with_reducible exact bk_pu pu_167 _) | (with_reducible exact bk_pu pu_177 _) | (with_reducible refine bk_pu (pu_170 hn ?_) _) | (with_reducible exact bk_pu (pu_175 hn) _) | (omega) | (decide))
  · repeat' (first | (with_reducible exact fc_cl hn hS hz (by assumption)) | (with_reducible assumption) | (with_reducible refine fw_some ?_) | (with_reducible exact ⟨rfl, by assumption⟩) | (with_reducible refine fcs_r5 hS (by assumption) ?_) | (with_reducible refine fcs_r6 hS (by assumption) ?_) | (with_reducible refine fcs_r4 hS (by assumption) ?_) | (with_reducible refine fcs_32 (by assumption) ?_) | (with_reducible refine fcs_26 (by assumption) ?_) | (with_reducible refine fcs_37 (by assumption) ?_ ?_) | (with_reducible refine fcs_39 (by assumption) ?_ ?_) | (with_reducible refine fcs_41 (by assumption) ?_ ?_) | (with_reducible refine fcs_57 (by assumption) ?_) | (with_reducible refine fcs_58 hS (by assumption) ?_) | (with_reducible refine fcs_53 hS (by assumption) (fun _ _ => ?_)) | (with_reducible refine fcs_54 hx (by assumption) (fun _ _ => ?_)) | (with_reducible refine fcs_I (by assumption) hx ?_ ?_ ?_ (fun _ => ?_)) | (with_reducible refine fw_z ?_) | (with_reducible refine fw_i1 rfl ?_) | (with_reducible refine fw_i1 (by assumption) ?_) | (with_reducible refine fw_i0 (by assumption) ?_) | (with_reducible refine fw_i0 (fc_k (by assumption) ?_) ?_) | (with_reducible refine fcs_k (by assumption) ?_) | (refine fw_i0 (by decide) ?_) | (refine fw_i1 (by decide) ?_) | (omega) | (decide))
  · repeat' (first | (with_reducible assumption) | (with_reducible refine fw_some ?_) | (with_reducible exact ⟨rfl, by assumption⟩) | (with_reducible refine fms_rd hS (by assumption) ?_) | (with_reducible refine fms_167 (by assumption) ?_) | (with_reducible refine fms_173 (by assumption) ?_) | (with_reducible refine fms_172 (by assumption) ?_) | (with_reducible refine fms_179 (by assumption) ?_) | (with_reducible refine fms_164 hn hS (by assumption) (fun _ _ => ?_)) | (with_reducible refine fms_196 (by assumption) ?_) | (with_reducible refine fms_195 hS (by assumption) ?_) | (with_reducible refine fms_182 hS (by assumption) (fun _ _ => ?_)) | (with_reducible refine fms_189 (by assumption) ?_) | (with_reducible refine fms_190 (by assumption) ?_) | (with_reducible refine fms_178 (by assumption) ?_) | (with_reducible refine fms_I (by assumption) hy ?_ (fun _ => ?_)) | (with_reducible refine fw_z ?_) | (with_reducible refine fw_i1 rfl ?_) | (with_reducible refine fw_i1 (by assumption) ?_) | (with_reducible refine fw_i0 (by assumption) ?_) | (refine fw_i0 (by decide) ?_) | (refine fw_i1 (by decide) ?_) | (omega) | (decide))
  have := tkNx_gt (U := U) (tk_lt h.1.1 (by rw [hk1]; decide))
  rw [ER_5 hS h4.1.1, grd (gck9 hx).2.1]
  refine st_u (j := 2) (i := 3) (c0 := c2) (HQ_ub (ub2 := 4 * r + 1) hQ (by omega)) (by omega) (by omega) h4 hc2 (Or.inl ⟨rfl, rfl⟩) H4 (fun u => bk_some LR_rf) (fun f z u hF => fc_cl hn hS hz hF) (fun f z u hM => fw_some hM) (fun w a b hk2 h5 hR2 hw0 har2 H5 => ?_)
  have := tkNx_gt (U := U) (tk_lt h4.1.1 (by rw [hk2]; decide))
  rw [cl_n hS h5 hkk.1]
  exact Rs_A rfl rfl (BO_c (kk := kk) hc0 h5 ⟨by omega, by omega, hkk.2⟩ ⟨rfl, rfl, rfl, rfl, rfl, rfl⟩ (fun hK _ => hO hK v w ((hR hK).1.1 c1 hc1 rfl) ((hR2 hK).1.1 c2 hc2 rfl)))
theorem op_62 {k : Int32} (hS : S0 U len x y s0 t0) (hr : r < 200) (h : ST U len x y s0 t0 K np tz G bl r nb0 cd0 sS tS ub q dp nd cd us es nb c m L E mE cs s t) (hk : c 0 = k) : f62 n (nI r) s = yb1 (f63 n k s) fun v4 u3 => if v4 = (-1 : Int32) then f62_53 n (nI r) k v4 u3 else if k = (153 : Int32) then if (u3.1 1001 4) = (59 : Int32) then f62_53 n (nI r) k v4 u3 else f62_39 n (nI r) k v4 u3 else f62_39 n (nI r) k v4 u3 := by
  obtain ⟨hz, hnx, -⟩ := r4 (r := r) (i := 0) hr (by omega)
  unfold f62
  rw [ER_5 hS h.1.1, grd (gck9 hS.1).2.1, if_pos hz, hnx]
  have : s.1 (x + 20 + 0) r = c 0 := h.2.1.1 0 (by omega)
  rw [show x + 19 + 1 = x + 20 + 0 by omega, this, hk]
  rfl
theorem op_39 {k v : Int32} (hS : S0 U len x y s0 t0) (hr : r < 200) (h : ST U len x y s0 t0 K np tz G bl r nb0 cd0 sS tS ub q dp nd cd us es nb c m L E mE cs s t) : f62_39 n (nI r) k v s = yb1 (f57 n v s) fun v3 u2 => zlet (sI u2 (x + 21) r v3) fun u4 => f62_53 n (nI r) k v u4 := by
  obtain ⟨hz, hnx, -⟩ := r4 (r := r) (i := 0) hr (by omega)
  unfold f62_39
  rw [ER_5 hS h.1.1, grd (gck9 hS.1).2.1]
  simp only [if_pos hz, hnx]
theorem op_4 {g : zσ → Option (Int32 × zσ)} (hQ : HQ n U len x y s0 t0 K tz G ub) (hr : r < 200) (hc0 : cd0 = cd) (hpr : K = 1 → 8 ≤ G 5 bl) (h : ST U len x y s0 t0 K np tz G bl r nb0 cd0 sS tS (4 * r) q dp nd cd us es nb (c0F (nI (zkd 4)) cd bl) (m0F (nI 4)) L E 0 cs s t) (H : Hb (fun u => u) K np y tz (f201 n g (nI r) (nI 4) t)) : Rs (FC len x s0) (FM len y t0) (ZB K y tz) (BO U len x y s0 t0 K np tz G bl r nb0 cd0 sS tS q dp nb) (yb0 (f62 n (nI r) s) (clF n r)) (f201 n g (nI r) (nI 4) t) := by
  obtain ⟨hn, hS, -⟩ := id hQ
  have hx := hS.1
  have hy := hS.2.1
  have hE := h.1.1
  obtain ⟨hz, hnx, h4m, h4a, h8z, h8n⟩ := r4 (r := r) (i := 0) hr (by omega)
  have e80 : zin? ((4 : Int32) * nI r) 800 = true := by rw [h4m]; exact h8z
  have n80 : nx ((4 : Int32) * nI r) = 4 * r + 0 := by rw [h4m]; exact h8n
  have em : f201 n g (nI r) (nI 4) t = yb1 (f190 n t) fun v2 u1 => zlet (sI u1 (y + 22) (4 * r + 0) v2) fun u3 => some u3 := by
    unfold f201 f201_132 f201_281 f201_328 f201_422
    rw [ER_y hS hE, grd (gck12 hy)]
    simp only [if_pos hz, hnx, if_pos e80, n80]
    rfl
  have ec : yb0 (f62 n (nI r) s) (clF n r) = yb0 (f49 n (f52 n 20) s) (clF n r) := by
    rw [op_62 (k := (150 : Int32)) hS hr h rfl]
    show yb0 (yb0 (f49 n (f52 n 20) s) fun u => some u) (clF n r) = _
    rw [y0s]
  rw [em] at H ⊢
  rw [ec]
  exact op_E (kk := 4) hQ hr hc0 h (by decide) (fun hK => Or.inr (Or.inr (Or.inr (Or.inl ⟨rfl, rfl, hpr hK⟩)))) H
theorem op_7 {g : zσ → Option (Int32 × zσ)} (hQ : HQ n U len x y s0 t0 K tz G ub) (hr : r < 200) (hc0 : cd0 = cd) (h : ST U len x y s0 t0 K np tz G bl r nb0 cd0 sS tS (4 * r) q dp nd cd us es nb (c0F (nI (zkd 7)) cd bl) (m0F (nI 7)) L E 0 cs s t) (H : Hb (fun u => u) K np y tz (f201 n g (nI r) (nI 7) t)) : Rs (FC len x s0) (FM len y t0) (ZB K y tz) (BO U len x y s0 t0 K np tz G bl r nb0 cd0 sS tS q dp nb) (yb0 (f62 n (nI r) s) (clF n r)) (f201 n g (nI r) (nI 7) t) := by
  obtain ⟨hn, hS, -⟩ := id hQ
  have hx := hS.1
  have hy := hS.2.1
  have hE := h.1.1
  obtain ⟨hz, hnx, h4m, h4a, h8z, h8n⟩ := r4 (r := r) (i := 0) hr (by omega)
  have e80 : zin? ((4 : Int32) * nI r) 800 = true := by rw [h4m]; exact h8z
  have n80 : nx ((4 : Int32) * nI r) = 4 * r + 0 := by rw [h4m]; exact h8n
  have em : f201 n g (nI r) (nI 7) t = yb1 (f189 n (nI 1) t) fun v2 u1 => zlet (sI u1 (y + 17) r v2) fun u5 => yb1 (f190 n u5) fun v7 u6 => zlet (sI u6 (y + 22) (4 * r + 0) v7) fun u8 => some u8 := by
    unfold f201 f201_132 f201_281 f201_328 f201_422
    rw [ER_y hS hE, grd (gck12 hy)]
    simp only [if_pos hz, hnx, if_pos e80, n80]
    rfl
  have ec : yb0 (f62 n (nI r) s) (clF n r) = yb1 (f57 n (nI 1) s) fun v u => zlet (sI u (x + 21) r v) fun u => yb0 (f49 n (f52 n 20) u) (clF n r) := by
    rw [op_62 (k := (154 : Int32)) hS hr h rfl]
    show yb0 (f62_39 n (nI r) 154 1 s) (clF n r) = _
    rw [op_39 hS hr h]
    unfold f62_53 f62_127
    simp only [as_01, as_0z, if_pos hz, hnx]
    simp only [↓reduceIte, as_00, as_0s, as_0i]
    rfl
  rw [em] at H ⊢
  rw [ec]
  exact op_AE (kk := 7) (c1 := 1) hQ hr hc0 (by omega) h (by decide) (fun hK v hu => Or.inr (Or.inr (Or.inr (Or.inr (Or.inl ⟨rfl, hu, rfl⟩))))) H
theorem op_8 {g : zσ → Option (Int32 × zσ)} (hQ : HQ n U len x y s0 t0 K tz G ub) (hr : r < 200) (hc0 : cd0 = cd) (h : ST U len x y s0 t0 K np tz G bl r nb0 cd0 sS tS (4 * r) q dp nd cd us es nb (c0F (nI (zkd 8)) cd bl) (m0F (nI 8)) L E 0 cs s t) (H : Hb (fun u => u) K np y tz (f201 n g (nI r) (nI 8) t)) : Rs (FC len x s0) (FM len y t0) (ZB K y tz) (BO U len x y s0 t0 K np tz G bl r nb0 cd0 sS tS q dp nb) (yb0 (f62 n (nI r) s) (clF n r)) (f201 n g (nI r) (nI 8) t) := by
  obtain ⟨hn, hS, -⟩ := id hQ
  have hx := hS.1
  have hy := hS.2.1
  have hE := h.1.1
  obtain ⟨hz, hnx, h4m, h4a, h8z, h8n⟩ := r4 (r := r) (i := 0) hr (by omega)
  have e80 : zin? ((4 : Int32) * nI r) 800 = true := by rw [h4m]; exact h8z
  have n80 : nx ((4 : Int32) * nI r) = 4 * r + 0 := by rw [h4m]; exact h8n
  have em : f201 n g (nI r) (nI 8) t = yb1 (f189 n (nI 1) t) fun v2 u1 => zlet (sI u1 (y + 17) r v2) fun u5 => yb1 (f189 n (nI 1) u5) fun v7 u6 => zlet (sI u6 (y + 18) r v7) fun u8 => some u8 := by
    unfold f201 f201_132 f201_281 f201_328 f201_422
    rw [ER_y hS hE, grd (gck12 hy)]
    simp only [if_pos hz, hnx, if_pos e80, n80]
    rfl
  have ec : yb0 (f62 n (nI r) s) (clF n r) = yb1 (f57 n (nI 1) s) fun v u => zlet (sI u (x + 21) r v) fun u => zrd 6 (u.2.2 1004 5) fun a5 => yb1 (f57 n (nI 1) u) fun v u => zlet (sI u (a5 + 3) r v) fun u => clF n r u := by
    rw [op_62 (k := (155 : Int32)) hS hr h rfl]
    show yb0 (f62_39 n (nI r) 155 1 s) (clF n r) = _
    rw [op_39 hS hr h]
    unfold f62_53 f62_127
    simp only [as_01, as_0z, if_pos hz, hnx]
    simp only [↓reduceIte, as_0r, as_01, as_0z, as_0s, as_0i]
    rfl
  rw [em] at H ⊢
  rw [ec]
  exact op_AB (kk := 8) (c1 := 1) (c2 := 1) hQ hr hc0 (by omega) (by omega) h (by decide) (fun hK v w hu hw => Or.inr (Or.inr (Or.inr (Or.inr (Or.inr (Or.inl ⟨rfl, hu, hw, rfl⟩)))))) H
theorem op_9 {g : zσ → Option (Int32 × zσ)} (hQ : HQ n U len x y s0 t0 K tz G ub) (hr : r < 200) (hc0 : cd0 = cd) (h : ST U len x y s0 t0 K np tz G bl r nb0 cd0 sS tS (4 * r) q dp nd cd us es nb (c0F (nI (zkd 9)) cd bl) (m0F (nI 9)) L E 0 cs s t) (H : Hb (fun u => u) K np y tz (f201 n g (nI r) (nI 9) t)) : Rs (FC len x s0) (FM len y t0) (ZB K y tz) (BO U len x y s0 t0 K np tz G bl r nb0 cd0 sS tS q dp nb) (yb0 (f62 n (nI r) s) (clF n r)) (f201 n g (nI r) (nI 9) t) := by
  obtain ⟨hn, hS, -⟩ := id hQ
  have hx := hS.1
  have hy := hS.2.1
  have hE := h.1.1
  obtain ⟨hz, hnx, h4m, h4a, h8z, h8n⟩ := r4 (r := r) (i := 0) hr (by omega)
  have e80 : zin? ((4 : Int32) * nI r) 800 = true := by rw [h4m]; exact h8z
  have n80 : nx ((4 : Int32) * nI r) = 4 * r + 0 := by rw [h4m]; exact h8n
  have em : f201 n g (nI r) (nI 9) t = yb1 (f189 n (nI 1) t) fun v2 u1 => zlet (sI u1 (y + 17) r v2) fun u3 => some u3 := by
    unfold f201 f201_132 f201_281 f201_328 f201_422
    rw [ER_y hS hE, grd (gck12 hy)]
    simp only [if_pos hz, hnx, if_pos e80, n80]
    rfl
  have ec : yb0 (f62 n (nI r) s) (clF n r) = yb1 (f57 n (nI 1) s) fun v u => zlet (sI u (x + 21) r v) fun u => clF n r u := by
    rw [op_62 (k := (156 : Int32)) hS hr h rfl]
    show yb0 (f62_39 n (nI r) 156 1 s) (clF n r) = _
    rw [op_39 hS hr h]
    unfold f62_53 f62_127
    simp only [as_01, as_0z, if_pos hz, hnx]
    rfl
  rw [em] at H ⊢
  rw [ec]
  exact op_A (kk := 9) (c1 := 1) hQ hr hc0 (by omega) h (by decide) (fun hK v hu => Or.inr (Or.inr (Or.inr (Or.inr (Or.inr (Or.inr (Or.inl ⟨rfl, hu, rfl⟩))))))) H
theorem op_12 {g : zσ → Option (Int32 × zσ)} (hQ : HQ n U len x y s0 t0 K tz G ub) (hr : r < 200) (hc0 : cd0 = cd) (h : ST U len x y s0 t0 K np tz G bl r nb0 cd0 sS tS (4 * r) q dp nd cd us es nb (c0F (nI (zkd 12)) cd bl) (m0F (nI 12)) L E 0 cs s t) (H : Hb (fun u => u) K np y tz (f201 n g (nI r) (nI 12) t)) : Rs (FC len x s0) (FM len y t0) (ZB K y tz) (BO U len x y s0 t0 K np tz G bl r nb0 cd0 sS tS q dp nb) (yb0 (f62 n (nI r) s) (clF n r)) (f201 n g (nI r) (nI 12) t) := by
  obtain ⟨hn, hS, -⟩ := id hQ
  have hx := hS.1
  have hy := hS.2.1
  have hE := h.1.1
  obtain ⟨hz, hnx, h4m, h4a, h8z, h8n⟩ := r4 (r := r) (i := 0) hr (by omega)
  have e80 : zin? ((4 : Int32) * nI r) 800 = true := by rw [h4m]; exact h8z
  have n80 : nx ((4 : Int32) * nI r) = 4 * r + 0 := by rw [h4m]; exact h8n
  have em : f201 n g (nI r) (nI 12) t = yb1 (f189 n (nI 3) t) fun v2 u1 => zlet (sI u1 (y + 17) r v2) fun u3 => some u3 := by
    unfold f201 f201_132 f201_281 f201_328 f201_422
    rw [ER_y hS hE, grd (gck12 hy)]
    simp only [if_pos hz, hnx, if_pos e80, n80]
    rfl
  have ec : yb0 (f62 n (nI r) s) (clF n r) = yb1 (f57 n (nI 3) s) fun v u => zlet (sI u (x + 21) r v) fun u => clF n r u := by
    rw [op_62 (k := (161 : Int32)) hS hr h rfl]
    show yb0 (f62_39 n (nI r) 161 3 s) (clF n r) = _
    rw [op_39 hS hr h]
    unfold f62_53 f62_127
    simp only [as_01, as_0z, if_pos hz, hnx]
    rfl
  rw [em] at H ⊢
  rw [ec]
  exact op_A (kk := 12) (c1 := 3) hQ hr hc0 (by omega) h (by decide) (fun hK v hu => Or.inr (Or.inr (Or.inr (Or.inr (Or.inr (Or.inr (Or.inr (Or.inr (Or.inl ⟨by omega, hu, rfl⟩))))))))) H
theorem op_13 {g : zσ → Option (Int32 × zσ)} (hQ : HQ n U len x y s0 t0 K tz G ub) (hr : r < 200) (hc0 : cd0 = cd) (h : ST U len x y s0 t0 K np tz G bl r nb0 cd0 sS tS (4 * r) q dp nd cd us es nb (c0F (nI (zkd 13)) cd bl) (m0F (nI 13)) L E 0 cs s t) (H : Hb (fun u => u) K np y tz (f201 n g (nI r) (nI 13) t)) : Rs (FC len x s0) (FM len y t0) (ZB K y tz) (BO U len x y s0 t0 K np tz G bl r nb0 cd0 sS tS q dp nb) (yb0 (f62 n (nI r) s) (clF n r)) (f201 n g (nI r) (nI 13) t) := by
  obtain ⟨hn, hS, -⟩ := id hQ
  have hx := hS.1
  have hy := hS.2.1
  have hE := h.1.1
  obtain ⟨hz, hnx, h4m, h4a, h8z, h8n⟩ := r4 (r := r) (i := 0) hr (by omega)
  have e80 : zin? ((4 : Int32) * nI r) 800 = true := by rw [h4m]; exact h8z
  have n80 : nx ((4 : Int32) * nI r) = 4 * r + 0 := by rw [h4m]; exact h8n
  have em : f201 n g (nI r) (nI 13) t = yb1 (f189 n (nI 3) t) fun v2 u1 => zlet (sI u1 (y + 17) r v2) fun u3 => some u3 := by
    unfold f201 f201_132 f201_281 f201_328 f201_422
    rw [ER_y hS hE, grd (gck12 hy)]
    simp only [if_pos hz, hnx, if_pos e80, n80]
    rfl
  have ec : yb0 (f62 n (nI r) s) (clF n r) = yb1 (f57 n (nI 3) s) fun v u => zlet (sI u (x + 21) r v) fun u => clF n r u := by
    rw [op_62 (k := (162 : Int32)) hS hr h rfl]
    show yb0 (f62_39 n (nI r) 162 3 s) (clF n r) = _
    rw [op_39 hS hr h]
    unfold f62_53 f62_127
    simp only [as_01, as_0z, if_pos hz, hnx]
    rfl
  rw [em] at H ⊢
  rw [ec]
  exact op_A (kk := 13) (c1 := 3) hQ hr hc0 (by omega) h (by decide) (fun hK v hu => Or.inr (Or.inr (Or.inr (Or.inr (Or.inr (Or.inr (Or.inr (Or.inr (Or.inl ⟨by omega, hu, rfl⟩))))))))) H
theorem op_14 {g : zσ → Option (Int32 × zσ)} (hQ : HQ n U len x y s0 t0 K tz G ub) (hr : r < 200) (hc0 : cd0 = cd) (h : ST U len x y s0 t0 K np tz G bl r nb0 cd0 sS tS (4 * r) q dp nd cd us es nb (c0F (nI (zkd 14)) cd bl) (m0F (nI 14)) L E 0 cs s t) (H : Hb (fun u => u) K np y tz (f201 n g (nI r) (nI 14) t)) : Rs (FC len x s0) (FM len y t0) (ZB K y tz) (BO U len x y s0 t0 K np tz G bl r nb0 cd0 sS tS q dp nb) (yb0 (f62 n (nI r) s) (clF n r)) (f201 n g (nI r) (nI 14) t) := by
  obtain ⟨hn, hS, -⟩ := id hQ
  have hx := hS.1
  have hy := hS.2.1
  have hE := h.1.1
  obtain ⟨hz, hnx, h4m, h4a, h8z, h8n⟩ := r4 (r := r) (i := 0) hr (by omega)
  have e80 : zin? ((4 : Int32) * nI r) 800 = true := by rw [h4m]; exact h8z
  have n80 : nx ((4 : Int32) * nI r) = 4 * r + 0 := by rw [h4m]; exact h8n
  have em : f201 n g (nI r) (nI 14) t = yb1 (f189 n (nI 3) t) fun v2 u1 => zlet (sI u1 (y + 17) r v2) fun u3 => some u3 := by
    unfold f201 f201_132 f201_281 f201_328 f201_422
    rw [ER_y hS hE, grd (gck12 hy)]
    simp only [if_pos hz, hnx, if_pos e80, n80]
    rfl
  have ec : yb0 (f62 n (nI r) s) (clF n r) = yb1 (f57 n (nI 3) s) fun v u => zlet (sI u (x + 21) r v) fun u => clF n r u := by
    rw [op_62 (k := (163 : Int32)) hS hr h rfl]
    show yb0 (f62_39 n (nI r) 163 3 s) (clF n r) = _
    rw [op_39 hS hr h]
    unfold f62_53 f62_127
    simp only [as_01, as_0z, if_pos hz, hnx]
    rfl
  rw [em] at H ⊢
  rw [ec]
  exact op_A (kk := 14) (c1 := 3) hQ hr hc0 (by omega) h (by decide) (fun hK v hu => Or.inr (Or.inr (Or.inr (Or.inr (Or.inr (Or.inr (Or.inr (Or.inr (Or.inl ⟨by omega, hu, rfl⟩))))))))) H
theorem op_15 {g : zσ → Option (Int32 × zσ)} (hQ : HQ n U len x y s0 t0 K tz G ub) (hr : r < 200) (hc0 : cd0 = cd) (h : ST U len x y s0 t0 K np tz G bl r nb0 cd0 sS tS (4 * r) q dp nd cd us es nb (c0F (nI (zkd 15)) cd bl) (m0F (nI 15)) L E 0 cs s t) (H : Hb (fun u => u) K np y tz (f201 n g (nI r) (nI 15) t)) : Rs (FC len x s0) (FM len y t0) (ZB K y tz) (BO U len x y s0 t0 K np tz G bl r nb0 cd0 sS tS q dp nb) (yb0 (f62 n (nI r) s) (clF n r)) (f201 n g (nI r) (nI 15) t) := by
  obtain ⟨hn, hS, -⟩ := id hQ
  have hx := hS.1
  have hy := hS.2.1
  have hE := h.1.1
  obtain ⟨hz, hnx, h4m, h4a, h8z, h8n⟩ := r4 (r := r) (i := 0) hr (by omega)
  have e80 : zin? ((4 : Int32) * nI r) 800 = true := by rw [h4m]; exact h8z
  have n80 : nx ((4 : Int32) * nI r) = 4 * r + 0 := by rw [h4m]; exact h8n
  have em : f201 n g (nI r) (nI 15) t = yb1 (f189 n (nI 3) t) fun v2 u1 => zlet (sI u1 (y + 17) r v2) fun u3 => some u3 := by
    unfold f201 f201_132 f201_281 f201_328 f201_422
    rw [ER_y hS hE, grd (gck12 hy)]
    simp only [if_pos hz, hnx, if_pos e80, n80]
    rfl
  have ec : yb0 (f62 n (nI r) s) (clF n r) = yb1 (f57 n (nI 3) s) fun v u => zlet (sI u (x + 21) r v) fun u => clF n r u := by
    rw [op_62 (k := (164 : Int32)) hS hr h rfl]
    show yb0 (f62_39 n (nI r) 164 3 s) (clF n r) = _
    rw [op_39 hS hr h]
    unfold f62_53 f62_127
    simp only [as_01, as_0z, if_pos hz, hnx]
    rfl
  rw [em] at H ⊢
  rw [ec]
  exact op_A (kk := 15) (c1 := 3) hQ hr hc0 (by omega) h (by decide) (fun hK v hu => Or.inr (Or.inr (Or.inr (Or.inr (Or.inr (Or.inr (Or.inr (Or.inr (Or.inl ⟨by omega, hu, rfl⟩))))))))) H
theorem op_16 {g : zσ → Option (Int32 × zσ)} (hQ : HQ n U len x y s0 t0 K tz G ub) (hr : r < 200) (hc0 : cd0 = cd) (h : ST U len x y s0 t0 K np tz G bl r nb0 cd0 sS tS (4 * r) q dp nd cd us es nb (c0F (nI (zkd 16)) cd bl) (m0F (nI 16)) L E 0 cs s t) (H : Hb (fun u => u) K np y tz (f201 n g (nI r) (nI 16) t)) : Rs (FC len x s0) (FM len y t0) (ZB K y tz) (BO U len x y s0 t0 K np tz G bl r nb0 cd0 sS tS q dp nb) (yb0 (f62 n (nI r) s) (clF n r)) (f201 n g (nI r) (nI 16) t) := by
  obtain ⟨hn, hS, -⟩ := id hQ
  have hx := hS.1
  have hy := hS.2.1
  have hE := h.1.1
  obtain ⟨hz, hnx, h4m, h4a, h8z, h8n⟩ := r4 (r := r) (i := 0) hr (by omega)
  have e80 : zin? ((4 : Int32) * nI r) 800 = true := by rw [h4m]; exact h8z
  have n80 : nx ((4 : Int32) * nI r) = 4 * r + 0 := by rw [h4m]; exact h8n
  have em : f201 n g (nI r) (nI 16) t = yb1 (f189 n (nI 8) t) fun v2 u1 => zlet (sI u1 (y + 17) r v2) fun u3 => some u3 := by
    unfold f201 f201_132 f201_281 f201_328 f201_422
    rw [ER_y hS hE, grd (gck12 hy)]
    simp only [if_pos hz, hnx, if_pos e80, n80]
    rfl
  have ec : yb0 (f62 n (nI r) s) (clF n r) = yb1 (f57 n (nI 8) s) fun v u => zlet (sI u (x + 21) r v) fun u => clF n r u := by
    rw [op_62 (k := (167 : Int32)) hS hr h rfl]
    show yb0 (f62_39 n (nI r) 167 8 s) (clF n r) = _
    rw [op_39 hS hr h]
    unfold f62_53 f62_127
    simp only [as_01, as_0z, if_pos hz, hnx]
    rfl
  rw [em] at H ⊢
  rw [ec]
  exact op_A (kk := 16) (c1 := 8) hQ hr hc0 (by omega) h (by decide) (fun hK v hu => Or.inr (Or.inr (Or.inr (Or.inr (Or.inr (Or.inr (Or.inr (Or.inr (Or.inr (Or.inl ⟨by omega, hu, Or.inl ⟨rfl, rfl, rfl⟩⟩)))))))))) H
theorem op_17 {g : zσ → Option (Int32 × zσ)} (hQ : HQ n U len x y s0 t0 K tz G ub) (hr : r < 200) (hc0 : cd0 = cd) (h : ST U len x y s0 t0 K np tz G bl r nb0 cd0 sS tS (4 * r) q dp nd cd us es nb (c0F (nI (zkd 17)) cd bl) (m0F (nI 17)) L E 0 cs s t) (H : Hb (fun u => u) K np y tz (f201 n g (nI r) (nI 17) t)) : Rs (FC len x s0) (FM len y t0) (ZB K y tz) (BO U len x y s0 t0 K np tz G bl r nb0 cd0 sS tS q dp nb) (yb0 (f62 n (nI r) s) (clF n r)) (f201 n g (nI r) (nI 17) t) := by
  obtain ⟨hn, hS, -⟩ := id hQ
  have hx := hS.1
  have hy := hS.2.1
  have hE := h.1.1
  obtain ⟨hz, hnx, h4m, h4a, h8z, h8n⟩ := r4 (r := r) (i := 0) hr (by omega)
  have e80 : zin? ((4 : Int32) * nI r) 800 = true := by rw [h4m]; exact h8z
  have n80 : nx ((4 : Int32) * nI r) = 4 * r + 0 := by rw [h4m]; exact h8n
  have em : f201 n g (nI r) (nI 17) t = yb1 (f189 n (nI 8) t) fun v2 u1 => zlet (sI u1 (y + 17) r v2) fun u3 => some u3 := by
    unfold f201 f201_132 f201_281 f201_328 f201_422
    rw [ER_y hS hE, grd (gck12 hy)]
    simp only [if_pos hz, hnx, if_pos e80, n80]
    rfl
  have ec : yb0 (f62 n (nI r) s) (clF n r) = yb1 (f57 n (nI 8) s) fun v u => zlet (sI u (x + 21) r v) fun u => clF n r u := by
    rw [op_62 (k := (168 : Int32)) hS hr h rfl]
    show yb0 (f62_39 n (nI r) 168 8 s) (clF n r) = _
    rw [op_39 hS hr h]
    unfold f62_53 f62_127
    simp only [as_01, as_0z, if_pos hz, hnx]
    rfl
  rw [em] at H ⊢
  rw [ec]
  exact op_A (kk := 17) (c1 := 8) hQ hr hc0 (by omega) h (by decide) (fun hK v hu => Or.inr (Or.inr (Or.inr (Or.inr (Or.inr (Or.inr (Or.inr (Or.inr (Or.inr (Or.inl ⟨by omega, hu, Or.inl ⟨rfl, rfl, rfl⟩⟩)))))))))) H
theorem op_19 {g : zσ → Option (Int32 × zσ)} (hQ : HQ n U len x y s0 t0 K tz G ub) (hr : r < 200) (hc0 : cd0 = cd) (h : ST U len x y s0 t0 K np tz G bl r nb0 cd0 sS tS (4 * r) q dp nd cd us es nb (c0F (nI (zkd 19)) cd bl) (m0F (nI 19)) L E 0 cs s t) (H : Hb (fun u => u) K np y tz (f201 n g (nI r) (nI 19) t)) : Rs (FC len x s0) (FM len y t0) (ZB K y tz) (BO U len x y s0 t0 K np tz G bl r nb0 cd0 sS tS q dp nb) (yb0 (f62 n (nI r) s) (clF n r)) (f201 n g (nI r) (nI 19) t) := by
  obtain ⟨hn, hS, -⟩ := id hQ
  have hx := hS.1
  have hy := hS.2.1
  have hE := h.1.1
  obtain ⟨hz, hnx, h4m, h4a, h8z, h8n⟩ := r4 (r := r) (i := 0) hr (by omega)
  have e80 : zin? ((4 : Int32) * nI r) 800 = true := by rw [h4m]; exact h8z
  have n80 : nx ((4 : Int32) * nI r) = 4 * r + 0 := by rw [h4m]; exact h8n
  have em : f201 n g (nI r) (nI 19) t = yb1 (f189 n (nI 8) t) fun v2 u1 => zlet (sI u1 (y + 17) r v2) fun u3 => some u3 := by
    unfold f201 f201_132 f201_281 f201_328 f201_422
    rw [ER_y hS hE, grd (gck12 hy)]
    simp only [if_pos hz, hnx, if_pos e80, n80]
    rfl
  have ec : yb0 (f62 n (nI r) s) (clF n r) = yb1 (f57 n (nI 8) s) fun v u => zlet (sI u (x + 21) r v) fun u => clF n r u := by
    rw [op_62 (k := (169 : Int32)) hS hr h rfl]
    show yb0 (f62_39 n (nI r) 169 8 s) (clF n r) = _
    rw [op_39 hS hr h]
    unfold f62_53 f62_127
    simp only [as_01, as_0z, if_pos hz, hnx]
    rfl
  rw [em] at H ⊢
  rw [ec]
  exact op_A (kk := 19) (c1 := 8) hQ hr hc0 (by omega) h (by decide) (fun hK v hu => Or.inr (Or.inr (Or.inr (Or.inr (Or.inr (Or.inr (Or.inr (Or.inr (Or.inr (Or.inr (Or.inr (Or.inl ⟨rfl, rfl, hu, rfl⟩)))))))))))) H
theorem op_20 {g : zσ → Option (Int32 × zσ)} (hQ : HQ n U len x y s0 t0 K tz G ub) (hr : r < 200) (hc0 : cd0 = cd) (h : ST U len x y s0 t0 K np tz G bl r nb0 cd0 sS tS (4 * r) q dp nd cd us es nb (c0F (nI (zkd 20)) cd bl) (m0F (nI 20)) L E 0 cs s t) (H : Hb (fun u => u) K np y tz (f201 n g (nI r) (nI 20) t)) : Rs (FC len x s0) (FM len y t0) (ZB K y tz) (BO U len x y s0 t0 K np tz G bl r nb0 cd0 sS tS q dp nb) (yb0 (f62 n (nI r) s) (clF n r)) (f201 n g (nI r) (nI 20) t) := by
  obtain ⟨hn, hS, -⟩ := id hQ
  have hx := hS.1
  have hy := hS.2.1
  have hE := h.1.1
  obtain ⟨hz, hnx, h4m, h4a, h8z, h8n⟩ := r4 (r := r) (i := 0) hr (by omega)
  have e80 : zin? ((4 : Int32) * nI r) 800 = true := by rw [h4m]; exact h8z
  have n80 : nx ((4 : Int32) * nI r) = 4 * r + 0 := by rw [h4m]; exact h8n
  have em : f201 n g (nI r) (nI 20) t = yb1 (f189 n (nI 8) t) fun v2 u1 => zlet (sI u1 (y + 17) r v2) fun u5 => yb1 (f190 n u5) fun v7 u6 => zlet (sI u6 (y + 22) (4 * r + 0) v7) fun u8 => some u8 := by
    unfold f201 f201_132 f201_281 f201_328 f201_422
    rw [ER_y hS hE, grd (gck12 hy)]
    simp only [if_pos hz, hnx, if_pos e80, n80]
    rfl
  have ec : yb0 (f62 n (nI r) s) (clF n r) = yb1 (f57 n (nI 8) s) fun v u => zlet (sI u (x + 21) r v) fun u => yb0 (f49 n (f52 n 20) u) (clF n r) := by
    rw [op_62 (k := (170 : Int32)) hS hr h rfl]
    show yb0 (f62_39 n (nI r) 170 8 s) (clF n r) = _
    rw [op_39 hS hr h]
    unfold f62_53 f62_127
    simp only [as_01, as_0z, if_pos hz, hnx]
    simp only [↓reduceIte, as_00, as_0s, as_0i]
    rfl
  rw [em] at H ⊢
  rw [ec]
  exact op_AE (kk := 20) (c1 := 8) hQ hr hc0 (by omega) h (by decide) (fun hK v hu => Or.inr (Or.inr (Or.inr (Or.inr (Or.inr (Or.inr (Or.inr (Or.inr (Or.inr (Or.inr (Or.inr (Or.inr (Or.inl ⟨rfl, rfl, hu, rfl⟩))))))))))))) H
theorem op_21 {g : zσ → Option (Int32 × zσ)} (hQ : HQ n U len x y s0 t0 K tz G ub) (hr : r < 200) (hc0 : cd0 = cd) (h : ST U len x y s0 t0 K np tz G bl r nb0 cd0 sS tS (4 * r) q dp nd cd us es nb (c0F (nI (zkd 21)) cd bl) (m0F (nI 21)) L E 0 cs s t) (H : Hb (fun u => u) K np y tz (f201 n g (nI r) (nI 21) t)) : Rs (FC len x s0) (FM len y t0) (ZB K y tz) (BO U len x y s0 t0 K np tz G bl r nb0 cd0 sS tS q dp nb) (yb0 (f62 n (nI r) s) (clF n r)) (f201 n g (nI r) (nI 21) t) := by
  obtain ⟨hn, hS, -⟩ := id hQ
  have hx := hS.1
  have hy := hS.2.1
  have hE := h.1.1
  obtain ⟨hz, hnx, h4m, h4a, h8z, h8n⟩ := r4 (r := r) (i := 0) hr (by omega)
  have e80 : zin? ((4 : Int32) * nI r) 800 = true := by rw [h4m]; exact h8z
  have n80 : nx ((4 : Int32) * nI r) = 4 * r + 0 := by rw [h4m]; exact h8n
  have em : f201 n g (nI r) (nI 21) t = yb1 (f189 n (nI 8) t) fun v2 u1 => zlet (sI u1 (y + 17) r v2) fun u3 => some u3 := by
    unfold f201 f201_132 f201_281 f201_328 f201_422
    rw [ER_y hS hE, grd (gck12 hy)]
    simp only [if_pos hz, hnx, if_pos e80, n80]
    rfl
  have ec : yb0 (f62 n (nI r) s) (clF n r) = yb1 (f57 n (nI 8) s) fun v u => zlet (sI u (x + 21) r v) fun u => clF n r u := by
    rw [op_62 (k := (171 : Int32)) hS hr h rfl]
    show yb0 (f62_39 n (nI r) 171 8 s) (clF n r) = _
    rw [op_39 hS hr h]
    unfold f62_53 f62_127
    simp only [as_01, as_0z, if_pos hz, hnx]
    rfl
  rw [em] at H ⊢
  rw [ec]
  exact op_A (kk := 21) (c1 := 8) hQ hr hc0 (by omega) h (by decide) (fun hK v hu => Or.inr (Or.inr (Or.inr (Or.inr (Or.inr (Or.inr (Or.inr (Or.inr (Or.inr (Or.inr (Or.inr (Or.inr (Or.inr (Or.inl ⟨rfl, rfl, hu, rfl⟩)))))))))))))) H
theorem op_22 {g : zσ → Option (Int32 × zσ)} (hQ : HQ n U len x y s0 t0 K tz G ub) (hr : r < 200) (hc0 : cd0 = cd) (h : ST U len x y s0 t0 K np tz G bl r nb0 cd0 sS tS (4 * r) q dp nd cd us es nb (c0F (nI (zkd 22)) cd bl) (m0F (nI 22)) L E 0 cs s t) (H : Hb (fun u => u) K np y tz (f201 n g (nI r) (nI 22) t)) : Rs (FC len x s0) (FM len y t0) (ZB K y tz) (BO U len x y s0 t0 K np tz G bl r nb0 cd0 sS tS q dp nb) (yb0 (f62 n (nI r) s) (clF n r)) (f201 n g (nI r) (nI 22) t) := by
  obtain ⟨hn, hS, -⟩ := id hQ
  have hx := hS.1
  have hy := hS.2.1
  have hE := h.1.1
  obtain ⟨hz, hnx, h4m, h4a, h8z, h8n⟩ := r4 (r := r) (i := 0) hr (by omega)
  have e80 : zin? ((4 : Int32) * nI r) 800 = true := by rw [h4m]; exact h8z
  have n80 : nx ((4 : Int32) * nI r) = 4 * r + 0 := by rw [h4m]; exact h8n
  have em : f201 n g (nI r) (nI 22) t = yb1 (f190 n t) fun v2 u1 => zlet (sI u1 (y + 22) (4 * r + 0) v2) fun u3 => some u3 := by
    unfold f201 f201_132 f201_281 f201_328 f201_422
    rw [ER_y hS hE, grd (gck12 hy)]
    simp only [if_pos hz, hnx, if_pos e80, n80]
    rfl
  have ec : yb0 (f62 n (nI r) s) (clF n r) = yb0 (f49 n (f52 n 20) s) (clF n r) := by
    rw [op_62 (k := (158 : Int32)) hS hr h rfl]
    show yb0 (yb0 (f49 n (f52 n 20) s) fun u => some u) (clF n r) = _
    rw [y0s]
  rw [em] at H ⊢
  rw [ec]
  exact op_E (kk := 22) hQ hr hc0 h (by decide) (fun hK => Or.inr (Or.inr (Or.inr (Or.inr (Or.inr (Or.inr (Or.inr (Or.inr (Or.inr (Or.inr (Or.inr (Or.inr (Or.inr (Or.inr (Or.inl ⟨rfl, rfl⟩))))))))))))))) H
theorem op_23 {g : zσ → Option (Int32 × zσ)} (hQ : HQ n U len x y s0 t0 K tz G ub) (hr : r < 200) (hc0 : cd0 = cd) (h : ST U len x y s0 t0 K np tz G bl r nb0 cd0 sS tS (4 * r) q dp nd cd us es nb (c0F (nI (zkd 23)) cd bl) (m0F (nI 23)) L E 0 cs s t) (H : Hb (fun u => u) K np y tz (f201 n g (nI r) (nI 23) t)) : Rs (FC len x s0) (FM len y t0) (ZB K y tz) (BO U len x y s0 t0 K np tz G bl r nb0 cd0 sS tS q dp nb) (yb0 (f62 n (nI r) s) (clF n r)) (f201 n g (nI r) (nI 23) t) := by
  obtain ⟨hn, hS, -⟩ := id hQ
  have hx := hS.1
  have hy := hS.2.1
  have hE := h.1.1
  obtain ⟨hz, hnx, h4m, h4a, h8z, h8n⟩ := r4 (r := r) (i := 0) hr (by omega)
  have e80 : zin? ((4 : Int32) * nI r) 800 = true := by rw [h4m]; exact h8z
  have n80 : nx ((4 : Int32) * nI r) = 4 * r + 0 := by rw [h4m]; exact h8n
  have em : f201 n g (nI r) (nI 23) t = yb1 (f189 n (nI 5) t) fun v2 u1 => zlet (sI u1 (y + 17) r v2) fun u5 => yb1 (f189 n (nI 0) u5) fun v7 u6 => zlet (sI u6 (y + 18) r v7) fun u8 => some u8 := by
    unfold f201 f201_132 f201_281 f201_328 f201_422
    rw [ER_y hS hE, grd (gck12 hy)]
    simp only [if_pos hz, hnx, if_pos e80, n80]
    rfl
  have ec : yb0 (f62 n (nI r) s) (clF n r) = yb1 (f57 n (nI 5) s) fun v u => zlet (sI u (x + 21) r v) fun u => zrd 6 (u.2.2 1004 5) fun a5 => yb1 (f57 n (nI 0) u) fun v u => zlet (sI u (a5 + 3) r v) fun u => clF n r u := by
    rw [op_62 (k := (165 : Int32)) hS hr h rfl]
    show yb0 (f62_39 n (nI r) 165 5 s) (clF n r) = _
    rw [op_39 hS hr h]
    unfold f62_53 f62_127
    simp only [as_01, as_0z, if_pos hz, hnx]
    simp only [↓reduceIte, as_0r, as_01, as_0z, as_0s, as_0i]
    rfl
  rw [em] at H ⊢
  rw [ec]
  exact op_AB (kk := 23) (c1 := 5) (c2 := 0) hQ hr hc0 (by omega) (by omega) h (by decide) (fun hK v w hu hw => Or.inr (Or.inr (Or.inr (Or.inr (Or.inr (Or.inr (Or.inr (Or.inr (Or.inr (Or.inr (Or.inr (Or.inr (Or.inr (Or.inr (Or.inr (Or.inl ⟨rfl, hu, hw, rfl⟩)))))))))))))))) H
theorem op_24 {g : zσ → Option (Int32 × zσ)} (hQ : HQ n U len x y s0 t0 K tz G ub) (hr : r < 200) (hc0 : cd0 = cd) (h : ST U len x y s0 t0 K np tz G bl r nb0 cd0 sS tS (4 * r) q dp nd cd us es nb (c0F (nI (zkd 24)) cd bl) (m0F (nI 24)) L E 0 cs s t) (H : Hb (fun u => u) K np y tz (f201 n g (nI r) (nI 24) t)) : Rs (FC len x s0) (FM len y t0) (ZB K y tz) (BO U len x y s0 t0 K np tz G bl r nb0 cd0 sS tS q dp nb) (yb0 (f62 n (nI r) s) (clF n r)) (f201 n g (nI r) (nI 24) t) := by
  obtain ⟨hn, hS, -⟩ := id hQ
  have hx := hS.1
  have hy := hS.2.1
  have hE := h.1.1
  obtain ⟨hz, hnx, h4m, h4a, h8z, h8n⟩ := r4 (r := r) (i := 0) hr (by omega)
  have e80 : zin? ((4 : Int32) * nI r) 800 = true := by rw [h4m]; exact h8z
  have n80 : nx ((4 : Int32) * nI r) = 4 * r + 0 := by rw [h4m]; exact h8n
  have em : f201 n g (nI r) (nI 24) t = yb1 (f189 n (nI 6) t) fun v2 u1 => zlet (sI u1 (y + 17) r v2) fun u5 => yb1 (f190 n u5) fun v7 u6 => zlet (sI u6 (y + 22) (4 * r + 0) v7) fun u8 => some u8 := by
    unfold f201 f201_132 f201_281 f201_328 f201_422
    rw [ER_y hS hE, grd (gck12 hy)]
    simp only [if_pos hz, hnx, if_pos e80, n80]
    rfl
  have ec : yb0 (f62 n (nI r) s) (clF n r) = yb1 (f57 n (nI 6) s) fun v u => zlet (sI u (x + 21) r v) fun u => yb0 (f49 n (f52 n 20) u) (clF n r) := by
    rw [op_62 (k := (166 : Int32)) hS hr h rfl]
    show yb0 (f62_39 n (nI r) 166 6 s) (clF n r) = _
    rw [op_39 hS hr h]
    unfold f62_53 f62_127
    simp only [as_01, as_0z, if_pos hz, hnx]
    simp only [↓reduceIte, as_00, as_0s, as_0i]
    rfl
  rw [em] at H ⊢
  rw [ec]
  exact op_AE (kk := 24) (c1 := 6) hQ hr hc0 (by omega) h (by decide) (fun hK v hu => Or.inr (Or.inr (Or.inr (Or.inr (Or.inr (Or.inr (Or.inr (Or.inr (Or.inr (Or.inr (Or.inr (Or.inr (Or.inr (Or.inr (Or.inr (Or.inr (Or.inl ⟨rfl, hu, rfl⟩))))))))))))))))) H
theorem op_25 {g : zσ → Option (Int32 × zσ)} (hQ : HQ n U len x y s0 t0 K tz G ub) (hr : r < 200) (hc0 : cd0 = cd) (h : ST U len x y s0 t0 K np tz G bl r nb0 cd0 sS tS (4 * r) q dp nd cd us es nb (c0F (nI (zkd 25)) cd bl) (m0F (nI 25)) L E 0 cs s t) (H : Hb (fun u => u) K np y tz (f201 n g (nI r) (nI 25) t)) : Rs (FC len x s0) (FM len y t0) (ZB K y tz) (BO U len x y s0 t0 K np tz G bl r nb0 cd0 sS tS q dp nb) (yb0 (f62 n (nI r) s) (clF n r)) (f201 n g (nI r) (nI 25) t) := by
  obtain ⟨hn, hS, -⟩ := id hQ
  have hx := hS.1
  have hy := hS.2.1
  have hE := h.1.1
  obtain ⟨hz, hnx, h4m, h4a, h8z, h8n⟩ := r4 (r := r) (i := 0) hr (by omega)
  have e80 : zin? ((4 : Int32) * nI r) 800 = true := by rw [h4m]; exact h8z
  have n80 : nx ((4 : Int32) * nI r) = 4 * r + 0 := by rw [h4m]; exact h8n
  have em : f201 n g (nI r) (nI 25) t = yb1 (f189 n (nI 4) t) fun v2 u1 => zlet (sI u1 (y + 17) r v2) fun u3 => some u3 := by
    unfold f201 f201_132 f201_281 f201_328 f201_422
    rw [ER_y hS hE, grd (gck12 hy)]
    simp only [if_pos hz, hnx, if_pos e80, n80]
    rfl
  have ec : yb0 (f62 n (nI r) s) (clF n r) = yb1 (f57 n (nI 4) s) fun v u => zlet (sI u (x + 21) r v) fun u => clF n r u := by
    rw [op_62 (k := (172 : Int32)) hS hr h rfl]
    show yb0 (f62_39 n (nI r) 172 4 s) (clF n r) = _
    rw [op_39 hS hr h]
    unfold f62_53 f62_127
    simp only [as_01, as_0z, if_pos hz, hnx]
    rfl
  rw [em] at H ⊢
  rw [ec]
  exact op_A (kk := 25) (c1 := 4) hQ hr hc0 (by omega) h (by decide) (fun hK v hu => Or.inr (Or.inr (Or.inr (Or.inr (Or.inr (Or.inr (Or.inr (Or.inr (Or.inr (Or.inr (Or.inr (Or.inr (Or.inr (Or.inr (Or.inr (Or.inr (Or.inr (Or.inl ⟨by omega, hu, rfl⟩)))))))))))))))))) H
theorem op_26 {g : zσ → Option (Int32 × zσ)} (hQ : HQ n U len x y s0 t0 K tz G ub) (hr : r < 200) (hc0 : cd0 = cd) (h : ST U len x y s0 t0 K np tz G bl r nb0 cd0 sS tS (4 * r) q dp nd cd us es nb (c0F (nI (zkd 26)) cd bl) (m0F (nI 26)) L E 0 cs s t) (H : Hb (fun u => u) K np y tz (f201 n g (nI r) (nI 26) t)) : Rs (FC len x s0) (FM len y t0) (ZB K y tz) (BO U len x y s0 t0 K np tz G bl r nb0 cd0 sS tS q dp nb) (yb0 (f62 n (nI r) s) (clF n r)) (f201 n g (nI r) (nI 26) t) := by
  obtain ⟨hn, hS, -⟩ := id hQ
  have hx := hS.1
  have hy := hS.2.1
  have hE := h.1.1
  obtain ⟨hz, hnx, h4m, h4a, h8z, h8n⟩ := r4 (r := r) (i := 0) hr (by omega)
  have e80 : zin? ((4 : Int32) * nI r) 800 = true := by rw [h4m]; exact h8z
  have n80 : nx ((4 : Int32) * nI r) = 4 * r + 0 := by rw [h4m]; exact h8n
  have em : f201 n g (nI r) (nI 26) t = yb1 (f189 n (nI 4) t) fun v2 u1 => zlet (sI u1 (y + 17) r v2) fun u3 => some u3 := by
    unfold f201 f201_132 f201_281 f201_328 f201_422
    rw [ER_y hS hE, grd (gck12 hy)]
    simp only [if_pos hz, hnx, if_pos e80, n80]
    rfl
  have ec : yb0 (f62 n (nI r) s) (clF n r) = yb1 (f57 n (nI 4) s) fun v u => zlet (sI u (x + 21) r v) fun u => clF n r u := by
    rw [op_62 (k := (173 : Int32)) hS hr h rfl]
    show yb0 (f62_39 n (nI r) 173 4 s) (clF n r) = _
    rw [op_39 hS hr h]
    unfold f62_53 f62_127
    simp only [as_01, as_0z, if_pos hz, hnx]
    rfl
  rw [em] at H ⊢
  rw [ec]
  exact op_A (kk := 26) (c1 := 4) hQ hr hc0 (by omega) h (by decide) (fun hK v hu => Or.inr (Or.inr (Or.inr (Or.inr (Or.inr (Or.inr (Or.inr (Or.inr (Or.inr (Or.inr (Or.inr (Or.inr (Or.inr (Or.inr (Or.inr (Or.inr (Or.inr (Or.inl ⟨by omega, hu, rfl⟩)))))))))))))))))) H
theorem op_27 {g : zσ → Option (Int32 × zσ)} (hQ : HQ n U len x y s0 t0 K tz G ub) (hr : r < 200) (hc0 : cd0 = cd) (h : ST U len x y s0 t0 K np tz G bl r nb0 cd0 sS tS (4 * r) q dp nd cd us es nb (c0F (nI (zkd 27)) cd bl) (m0F (nI 27)) L E 0 cs s t) (H : Hb (fun u => u) K np y tz (f201 n g (nI r) (nI 27) t)) : Rs (FC len x s0) (FM len y t0) (ZB K y tz) (BO U len x y s0 t0 K np tz G bl r nb0 cd0 sS tS q dp nb) (yb0 (f62 n (nI r) s) (clF n r)) (f201 n g (nI r) (nI 27) t) := by
  obtain ⟨hn, hS, -⟩ := id hQ
  have hx := hS.1
  have hy := hS.2.1
  have hE := h.1.1
  obtain ⟨hz, hnx, h4m, h4a, h8z, h8n⟩ := r4 (r := r) (i := 0) hr (by omega)
  have e80 : zin? ((4 : Int32) * nI r) 800 = true := by rw [h4m]; exact h8z
  have n80 : nx ((4 : Int32) * nI r) = 4 * r + 0 := by rw [h4m]; exact h8n
  have em : f201 n g (nI r) (nI 27) t = yb1 (f189 n (nI 4) t) fun v2 u1 => zlet (sI u1 (y + 17) r v2) fun u3 => some u3 := by
    unfold f201 f201_132 f201_281 f201_328 f201_422
    rw [ER_y hS hE, grd (gck12 hy)]
    simp only [if_pos hz, hnx, if_pos e80, n80]
    rfl
  have ec : yb0 (f62 n (nI r) s) (clF n r) = yb1 (f57 n (nI 4) s) fun v u => zlet (sI u (x + 21) r v) fun u => clF n r u := by
    rw [op_62 (k := (174 : Int32)) hS hr h rfl]
    show yb0 (f62_39 n (nI r) 174 4 s) (clF n r) = _
    rw [op_39 hS hr h]
    unfold f62_53 f62_127
    simp only [as_01, as_0z, if_pos hz, hnx]
    rfl
  rw [em] at H ⊢
  rw [ec]
  exact op_A (kk := 27) (c1 := 4) hQ hr hc0 (by omega) h (by decide) (fun hK v hu => Or.inr (Or.inr (Or.inr (Or.inr (Or.inr (Or.inr (Or.inr (Or.inr (Or.inr (Or.inr (Or.inr (Or.inr (Or.inr (Or.inr (Or.inr (Or.inr (Or.inr (Or.inl ⟨by omega, hu, rfl⟩)))))))))))))))))) H
theorem op_28 {g : zσ → Option (Int32 × zσ)} (hQ : HQ n U len x y s0 t0 K tz G ub) (hr : r < 200) (hc0 : cd0 = cd) (h : ST U len x y s0 t0 K np tz G bl r nb0 cd0 sS tS (4 * r) q dp nd cd us es nb (c0F (nI (zkd 28)) cd bl) (m0F (nI 28)) L E 0 cs s t) (H : Hb (fun u => u) K np y tz (f201 n g (nI r) (nI 28) t)) : Rs (FC len x s0) (FM len y t0) (ZB K y tz) (BO U len x y s0 t0 K np tz G bl r nb0 cd0 sS tS q dp nb) (yb0 (f62 n (nI r) s) (clF n r)) (f201 n g (nI r) (nI 28) t) := by
  obtain ⟨hn, hS, -⟩ := id hQ
  have hx := hS.1
  have hy := hS.2.1
  have hE := h.1.1
  obtain ⟨hz, hnx, h4m, h4a, h8z, h8n⟩ := r4 (r := r) (i := 0) hr (by omega)
  have e80 : zin? ((4 : Int32) * nI r) 800 = true := by rw [h4m]; exact h8z
  have n80 : nx ((4 : Int32) * nI r) = 4 * r + 0 := by rw [h4m]; exact h8n
  have em : f201 n g (nI r) (nI 28) t = yb1 (f190 n t) fun v2 u1 => zlet (sI u1 (y + 22) (4 * r + 0) v2) fun u3 => some u3 := by
    unfold f201 f201_132 f201_281 f201_328 f201_422
    rw [ER_y hS hE, grd (gck12 hy)]
    simp only [if_pos hz, hnx, if_pos e80, n80]
    rfl
  have ec : yb0 (f62 n (nI r) s) (clF n r) = yb0 (f49 n (f52 n 20) s) (clF n r) := by
    rw [op_62 (k := (157 : Int32)) hS hr h rfl]
    show yb0 (yb0 (f49 n (f52 n 20) s) fun u => some u) (clF n r) = _
    rw [y0s]
  rw [em] at H ⊢
  rw [ec]
  exact op_E (kk := 28) hQ hr hc0 h (by decide) (fun hK => Or.inr (Or.inr (Or.inr (Or.inr (Or.inr (Or.inr (Or.inr (Or.inr (Or.inr (Or.inr (Or.inr (Or.inr (Or.inr (Or.inr (Or.inr (Or.inr (Or.inr (Or.inr (⟨rfl, rfl⟩))))))))))))))))))) H
theorem m18 {g : zσ → Option (Int32 × zσ)} (hn : 5000 ≤ n) (hS : S0 U len x y s0 t0) (hr : r < 200) (h : ST U len x y s0 t0 K np tz G bl r nb0 cd0 sS tS ub q dp nd cd us es nb c m L E mE cs s t) : f201 n g (nI r) (nI 18) t = if tkKind U len q = 1 then yb1 (f189 n (nI 8) t) fun v2 u1 => zlet (sI u1 (y + 17) r v2) fun u3 => some u3 else some (sI t (y + 17) r (-1)) := by
  have hy := hS.2.1
  have hE := h.1.1
  obtain ⟨hz, hnx, -⟩ := r4 (r := r) (i := 0) hr (by omega)
  have hM := hE.2.1.2
  unfold f201 f201_323 f201_324
  rw [ER_y hS hE, grd (gck12 hy)]
  simp only [if_pos hz, hnx]
  show (yb1 (f167 n t) fun v19 u18 => if v19 = (0 : Int32) then _ else _) = _
  rw [m_goes hM.2, yb1_s, if_neg n10, tm_name hn hM.1, yb1_s]
  by_cases e : tkKind U len q = 1
  · rw [zone_1 e, if_neg n10, if_pos e]; rfl
  · rw [zone_0 e, if_pos rfl, if_neg e]; rfl
theorem c18 (hS : S0 U len x y s0 t0) (hr : r < 200) (h : ST U len x y s0 t0 K np tz G bl r nb0 cd0 sS tS ub q dp nd cd us es nb c m L E mE cs s t) (hc : c 0 = 153) : yb0 (f62 n (nI r) s) (clF n r) = if tkKind U len q = 59 then clF n r s else yb1 (f57 n (nI 8) s) fun v u => zlet (sI u (x + 21) r v) fun u => clF n r u := by
  have hE := h.1.1
  rw [op_62 (k := (153 : Int32)) hS hr h hc]
  show yb0 (if s.1 1001 4 = (59 : Int32) then some s else f62_39 n (nI r) 153 8 s) (clF n r) = _
  rw [ER_k hE, op_39 hS hr h]
  by_cases e : tkKind U len q = 59
  · rw [if_pos e, if_pos e]; rfl
  · rw [if_neg e, if_neg e]
    unfold f62_53
    simp only [as_01, as_0z]
    rfl
theorem op_18 {g : zσ → Option (Int32 × zσ)} (hQ : HQ n U len x y s0 t0 K tz G ub) (hr : r < 200) (hc0 : cd0 = cd) (h159 : tkKind U len q = 1 ∨ tkKind U len q = 59) (h : ST U len x y s0 t0 K np tz G bl r nb0 cd0 sS tS (4 * r) q dp nd cd us es nb (c0F (nI (zkd 18)) cd bl) (m0F (nI 18)) L E 0 cs s t) (H : Hb (fun u => u) K np y tz (f201 n g (nI r) (nI 18) t)) : Rs (FC len x s0) (FM len y t0) (ZB K y tz) (fun a b => BO U len x y s0 t0 K np tz G bl r nb0 cd0 sS tS q dp nb a b) (yb0 (f62 n (nI r) s) (clF n r)) (f201 n g (nI r) (nI 18) t) := by
  obtain ⟨hn, hS, -⟩ := id hQ
  rw [m18 hn hS hr h] at H ⊢
  rw [c18 hS hr h rfl]
  by_cases e1 : tkKind U len q = 1
  · rw [if_neg (show ¬ tkKind U len q = 59 by rw [e1]; decide)]
    rw [if_pos e1] at H ⊢
    exact op_A (kk := 18) (c1 := 8) hQ hr hc0 (by omega) h (by decide) (fun hK v hu => Or.inr (Or.inr (Or.inr (Or.inr (Or.inr (Or.inr (Or.inr (Or.inr (Or.inr (Or.inr (Or.inl ⟨rfl, rfl, Or.inr hu, rfl⟩))))))))))) H
  · rw [if_neg e1] at H ⊢
    have h2 := ST_wM (j := 2) (v := -1) hS (by omega) (by omega) (by omega) h
    by_cases e59 : tkKind U len q = 59
    · rw [if_pos e59, cl_n hS h (show ¬ (153 : Int32) = 149 by decide)]
      exact Rs_A rfl rfl (BO_c (kk := 18) hc0 h2 ⟨by omega, by omega, by omega, by omega, by omega, by omega⟩ ⟨rfl, rfl, rfl, rfl, rfl, rfl⟩ (fun hK _ => Or.inr (Or.inr (Or.inr (Or.inr (Or.inr (Or.inr (Or.inr (Or.inr (Or.inr (Or.inr (Or.inl ⟨rfl, rfl, Or.inl ⟨rfl, rfl⟩, rfl⟩))))))))))))
    · rcases h159 with e | e
      · exact absurd e e1
      · exact absurd e e59
end ZQC
