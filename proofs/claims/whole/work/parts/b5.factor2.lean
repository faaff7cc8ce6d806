/-! a factor, both readers; whole expressions -/
section ZPT
variable {U : Nat → Nat} {len x y n K np bl ub q dp nd cd us q2 dp2 nd2 cd2 us2 : Nat} {s0 t0 tz s t s2 t2 : zσ} {G : Nat → Nat → Nat}
/-- size, state -/
theorem word_f {g : zσ → Option zσ} {c k kk : Nat} (hQ : HQ n U len x y s0 t0 K tz G ub) (h : ER U len x y s0 t0 K np tz G bl ub q dp nd cd us s t) (hk' : tkKind U len q = nI k) (hkk : k = 142 ∧ kk = 3 ∧ c = 1 ∨ k = 144 ∧ kk = 5 ∧ c = 8) (H : Hb (fun u => u) K np y tz (yb0 (yb0 (f195 n t) (f164 n)) fun u4 => yb1 (f189 n (nI c) u4) fun v2 u1 => yb0 (f196 n (nI kk) v2 u1) fun u3 => some u3)) : Rs (FC len x s0) (FM len y t0) (ZB K y tz) (EA U len x y s0 t0 K np tz G bl ub (1 + 3 * (12 - dp)) q dp nd cd us s t) (yb0 (f58 n s) fun u1 => zrd 6 (u1.2.2 1004 5) fun a2 => f52_174 n g (nI c) (nI k) a2 u1) (yb0 (yb0 (f195 n t) (f164 n)) fun u4 => yb1 (f189 n (nI c) u4) fun v2 u1 => yb0 (f196 n (nI kk) v2 u1) fun u3 => some u3) := by
  obtain ⟨hn, hS, hub, -⟩ := id hQ
  have hx := hS.1
  have hy := hS.2.1
  have hk0 : ¬ tkKind U len q = 0 ∧ ¬ tkKind U len q = 3 := by
    rw [hk']
    rcases hkk with ⟨rfl, -⟩ | ⟨rfl, -⟩ <;> decide
  have hql := tk_lt h hk0.2
  have hgt := tkNx_gt (U := U) hql
  have hcn := h.2.2.2.2.2.1.2.2
  have hun := h.2.2.2.2.2.2.1.2
  refine st00 H (ER_y hS h) (bk_y0 LR_tr (b195 hy) (fun u => b164 hy)) (fun u => ?_) (er_node hn hS h hk0.1) (fun f z a hF => ?_) (fun f z b hM => ?_) (fun s1 t1 hA H2 => ?_)
  · repeat' (first | (with_reducible exact b195 hy) | (with_reducible exact b164 hy) | (with_reducible exact b196 hy) | (with_reducible exact b182 hy) | (with_reducible exact b179 hy) | (with_reducible exact b172 hy) | (with_reducible exact b173 hy (by decide)) | (with_reducible exact b189 hn hy) | (with_reducible exact b190 hn hy _) | (with_reducible exact b178 hy) | (with_reducible exact bk_none) | (with_reducible exact bk_some LR_rf) | (with_reducible refine bk_ite (fun _ => ?_) (fun _ => ?_)) | (with_reducible refine bk_rdL ?_) | (with_reducible refine bk_zS LR_tr (LR_I ?_ ?_ ?_ ?_) ?_) | (with_reducible refine bk_zS LR_tr (LR_J ?_ ?_) ?_) | (with_reducible refine bk_zV ?_) | (with_reducible refine bk_y0 LR_tr ?_ (fun _ => ?_)) | (with_reducible refine bk_y1 LR_tr ?_ (fun _ _ => ?_)) | (with_reducible exact bk_pu pu_167 _) | (with_reducible exact bk_pu pu_177 _) | (with_reducible refine bk_pu (pu_170 hn ?_) _) | (with_reducible exact bk_pu (pu_175 hn) _) | (omega) | (decide))
  · unfold f52_174
    repeat' (first | (with_reducible assumption) | (with_reducible refine fw_some ?_) | (with_reducible exact ⟨rfl, by assumption⟩) | (with_reducible refine fcs_r5 hS (by assumption) ?_) | (with_reducible refine fcs_r6 hS (by assumption) ?_) | (with_reducible refine fcs_r4 hS (by assumption) ?_) | (with_reducible refine fcs_32 (by assumption) ?_) | (with_reducible refine fcs_26 (by assumption) ?_) | (with_reducible refine fcs_37 (by assumption) ?_ ?_) | (with_reducible refine fcs_39 (by assumption) ?_ ?_) | (with_reducible refine fcs_41 (by assumption) ?_ ?_) | (with_reducible refine fcs_57 (by assumption) ?_) | (with_reducible refine fcs_58 hS (by assumption) ?_) | (with_reducible refine fcs_53 hS (by assumption) (fun _ _ => ?_)) | (with_reducible refine fcs_54 hx (by assumption) (fun _ _ => ?_)) | (with_reducible refine fcs_I (by assumption) hx ?_ ?_ ?_ (fun _ => ?_)) | (with_reducible refine fw_z ?_) | (with_reducible refine fw_i1 rfl ?_) | (with_reducible refine fw_i1 (by assumption) ?_) | (with_reducible refine fw_i0 (by assumption) ?_) | (with_reducible refine fw_i0 (fc_k (by assumption) ?_) ?_) | (with_reducible refine fcs_k (by assumption) ?_) | (refine fw_i0 (by decide) ?_) | (refine fw_i1 (by decide) ?_) | (omega) | (decide))
  · repeat' (first | (with_reducible assumption) | (with_reducible refine fw_some ?_) | (with_reducible exact ⟨rfl, by assumption⟩) | (with_reducible refine fms_rd hS (by assumption) ?_) | (with_reducible refine fms_167 (by assumption) ?_) | (with_reducible refine fms_173 (by assumption) ?_) | (with_reducible refine fms_172 (by assumption) ?_) | (with_reducible refine fms_179 (by assumption) ?_) | (with_reducible refine fms_164 hn hS (by assumption) (fun _ _ => ?_)) | (with_reducible refine fms_196 (by assumption) ?_) | (with_reducible refine fms_195 hS (by assumption) ?_) | (with_reducible refine fms_182 hS (by assumption) (fun _ _ => ?_)) | (with_reducible refine fms_189 (by assumption) ?_) | (with_reducible refine fms_190 (by assumption) ?_) | (with_reducible refine fms_178 (by assumption) ?_) | (with_reducible refine fms_I (by assumption) hy ?_ (fun _ => ?_)) | (with_reducible refine fw_z ?_) | (with_reducible refine fw_i1 rfl ?_) | (with_reducible refine fw_i1 (by assumption) ?_) | (with_reducible refine fw_i0 (by assumption) ?_) | (refine fw_i0 (by decide) ?_) | (refine fw_i1 (by decide) ?_) | (omega) | (decide))
  obtain ⟨hnd, hC1, hE1⟩ := hA
  rw [ER_5 hS hE1, grd (gck9 hx).2.1]
  unfold f52_174
  refine st11 H2 (ER_y hS hE1) (b189 hn hy) (fun v u => ?_) (er_use (c0 := c) hQ hE1 (by omega) (Or.inl ⟨rfl, rfl⟩) (by omega)) (fun f z v a hF => ?_) (fun f z w b hM => ?_) (fun v s2 w t2 hA H3 => ?_)
  · repeat' (first | (with_reducible exact b195 hy) | (with_reducible exact b164 hy) | (with_reducible exact b196 hy) | (with_reducible exact b182 hy) | (with_reducible exact b179 hy) | (with_reducible exact b172 hy) | (with_reducible exact b173 hy (by decide)) | (with_reducible exact b189 hn hy) | (with_reducible exact b190 hn hy _) | (with_reducible exact b178 hy) | (with_reducible exact bk_none) | (with_reducible exact bk_some LR_rf) | (with_reducible refine bk_ite (fun _ => ?_) (fun _ => ?_)) | (with_reducible refine bk_rdL ?_) | (with_reducible refine bk_zS LR_tr (LR_I ?_ ?_ ?_ ?_) ?_) | (with_reducible refine bk_zS LR_tr (LR_J ?_ ?_) ?_) | (with_reducible refine bk_zV ?_) | (with_reducible refine bk_y0 LR_tr ?_ (fun _ => ?_)) | (with_reducible refine bk_y1 LR_tr ?_ (fun _ _ => ?_)) | (with_reducible exact bk_pu pu_167 _) | (with_reducible exact bk_pu pu_177 _) | (with_reducible refine bk_pu (pu_170 hn ?_) _) | (with_reducible exact bk_pu (pu_175 hn) _) | (omega) | (decide))
  · obtain ⟨-, hF⟩ := hF
    repeat' (first | (with_reducible assumption) | (with_reducible refine fw_some ?_) | (with_reducible exact ⟨rfl, by assumption⟩) | (with_reducible refine fcs_r5 hS (by assumption) ?_) | (with_reducible refine fcs_r6 hS (by assumption) ?_) | (with_reducible refine fcs_r4 hS (by assumption) ?_) | (with_reducible refine fcs_32 (by assumption) ?_) | (with_reducible refine fcs_26 (by assumption) ?_) | (with_reducible refine fcs_37 (by assumption) ?_ ?_) | (with_reducible refine fcs_39 (by assumption) ?_ ?_) | (with_reducible refine fcs_41 (by assumption) ?_ ?_) | (with_reducible refine fcs_57 (by assumption) ?_) | (with_reducible refine fcs_58 hS (by assumption) ?_) | (with_reducible refine fcs_53 hS (by assumption) (fun _ _ => ?_)) | (with_reducible refine fcs_54 hx (by assumption) (fun _ _ => ?_)) | (with_reducible refine fcs_I (by assumption) hx ?_ ?_ ?_ (fun _ => ?_)) | (with_reducible refine fw_z ?_) | (with_reducible refine fw_i1 rfl ?_) | (with_reducible refine fw_i1 (by assumption) ?_) | (with_reducible refine fw_i0 (by assumption) ?_) | (with_reducible refine fw_i0 (fc_k (by assumption) ?_) ?_) | (with_reducible refine fcs_k (by assumption) ?_) | (refine fw_i0 (by decide) ?_) | (refine fw_i1 (by decide) ?_) | (omega) | (decide))
  · have hM2 : FM len y t0 f z b := hM
    repeat' (first | (with_reducible assumption) | (with_reducible refine fw_some ?_) | (with_reducible exact ⟨rfl, by assumption⟩) | (with_reducible refine fms_rd hS (by assumption) ?_) | (with_reducible refine fms_167 (by assumption) ?_) | (with_reducible refine fms_173 (by assumption) ?_) | (with_reducible refine fms_172 (by assumption) ?_) | (with_reducible refine fms_179 (by assumption) ?_) | (with_reducible refine fms_164 hn hS (by assumption) (fun _ _ => ?_)) | (with_reducible refine fms_196 (by assumption) ?_) | (with_reducible refine fms_195 hS (by assumption) ?_) | (with_reducible refine fms_182 hS (by assumption) (fun _ _ => ?_)) | (with_reducible refine fms_189 (by assumption) ?_) | (with_reducible refine fms_190 (by assumption) ?_) | (with_reducible refine fms_178 (by assumption) ?_) | (with_reducible refine fms_I (by assumption) hy ?_ (fun _ => ?_)) | (with_reducible refine fw_z ?_) | (with_reducible refine fw_i1 rfl ?_) | (with_reducible refine fw_i1 (by assumption) ?_) | (with_reducible refine fw_i0 (by assumption) ?_) | (refine fw_i0 (by decide) ?_) | (refine fw_i1 (by decide) ?_) | (omega) | (decide))
  obtain ⟨rfl, hk1, ⟨hC2, hE2⟩, -, hR⟩ := hA
  rw [y0s] at H3 ⊢
  rw [y0s]
  refine Rs_w (er_emit hS hE2 (by omega) H3) (fun a b _ _ hab => ⟨_, nd + 1, cd + 1, us + 1, ⟨?_, Or.inl ?_⟩, ⟨by omega, by omega, by omega, by omega, by omega⟩, ⟨EC_tr (EC_tr hC1 hC2 (by omega) (by omega)) hab.1.1 (by omega) (by omega), hab.1.2⟩, fun hK => ?_⟩)
  · have := tkNx_gt (U := U) (tk_lt hE1 (by rw [hk1]; decide))
    omega
  · have := tkNx_gt (U := U) (tk_lt hE1 (by rw [hk1]; decide))
    omega
  obtain ⟨c1, c2, c3, c4⟩ := hab.2 hK
  obtain ⟨g13, gM⟩ := tC_k (k := kk) hQ (by omega) c3
  refine sg_up (show 1 ≤ 1 + 3 * (12 - dp) by omega) (sg_one (by omega) ⟨gM, ?_⟩)
  rw [c1, c2, tzM_o (by omega) (by omega), c4]
  have hu := (hR hK).1.1 c (by omega) rfl
  rcases hkk with ⟨rfl, rfl, rfl⟩ | ⟨rfl, rfl, rfl⟩
  · exact Or.inr (Or.inr (Or.inr (Or.inl ⟨g13, rfl, hu⟩)))
  · exact Or.inr (Or.inr (Or.inr (Or.inr (Or.inr (Or.inl ⟨g13, rfl, hu⟩)))))
/-- the reference at a number or time -/
theorem lit_m {c2 d2 : Int32} (hn : 5000 ≤ n) (hS : S0 U len x y s0 t0) (h : ER U len x y s0 t0 K np tz G bl ub q dp nd cd us s t) (hlt : nd < 400) : (∃ t2, (yb0 (f195 n t) fun u36 => yb0 (f196 n c2 d2 u36) fun u37 => yb0 (f164 n u37) fun u38 => some u38) = some t2 ∧ MG U len (tkNx U len q) t2 ∧ frM y t t2 ∧ t2.1 1132 14 = t.1 1132 14 ∧ t2.1 y 27 = nI (nd + 1) ∧ t2.1 y 31 = nI (cd + 1) ∧ t2.1 y 34 = t.1 y 34 ∧ t2.1 (y + 35) = t.1 (y + 35) ∧ t2.1 (y + 27) cd = c2 ∧ t2.1 (y + 28) cd = d2) ∧ (∃ t2, (yb0 (f195 n t) fun u31 => yb0 (f164 n u31) fun u32 => yb0 (f196 n c2 d2 u32) fun u33 => some u33) = some t2 ∧ MG U len (tkNx U len q) t2 ∧ frM y t t2 ∧ t2.1 1132 14 = t.1 1132 14 ∧ t2.1 y 27 = nI (nd + 1) ∧ t2.1 y 31 = nI (cd + 1) ∧ t2.1 y 34 = t.1 y 34 ∧ t2.1 (y + 35) = t.1 (y + 35) ∧ t2.1 (y + 27) cd = c2 ∧ t2.1 (y + 28) cd = d2) := by
  have hy := hS.2.1
  obtain ⟨k1, k2, k3⟩ := h.2.2.2.2.2.1
  have e96 : ∀ t : zσ, t.2.2 1132 12 = some y → t.1 1132 9 = 0 → t.1 y 31 = nI cd → f196 n c2 d2 t = some (sI (sI (sI t (y + 27) cd c2) (y + 28) cd d2) y 31 (nI (cd + 1))) := fun t r0 h9 k2 => by
    unfold f196
    have hin : zin? (nI cd) 900 = true := zin_nI (by omega) (by decide)
    have g1 : ∀ j v, (sI t (y + 27) j v).1 y 31 = nI cd := fun j v => by rw [hIo (by omega), k2]
    have g2 : ∀ j v j2 v2, (sI (sI t (y + 27) j v) (y + 28) j2 v2).1 y 31 = nI cd := fun j v j2 v2 => by rw [hIo (by omega), g1]
    have r1 : ∀ a j v, (sI t a j v).2.2 1132 12 = some y := fun _ _ _ => r0
    have r2 : ∀ a j v a2 j2 v2, (sI (sI t a j v) a2 j2 v2).2.2 1132 12 = some y := fun _ _ _ _ _ _ => r0
    rw [m_goes h9, yb1_s, if_neg (by decide)]
    simp only [r0, grd (gck12 hS.2.1), k2, if_pos hin, zlet, r1, g1, r2, g2, nI_1, nx_nI (show cd < 2 ^ 31 by omega)]
  have e95 := (er_195 (n := n) hS h).1 hlt
  have g1 : MG U len q (sI t y 27 (nI (nd + 1))) := MG_I (by omega) (by omega) h.2.1.2
  have o1 : frM y t (sI t y 27 (nI (nd + 1))) := frM_I hy (by omega)
  have o96 : ∀ t : zσ, frM y t (sI (sI (sI t (y + 27) cd c2) (y + 28) cd d2) y 31 (nI (cd + 1))) := fun t => frM_tr (frM_tr (frM_I hy (by omega)) (frM_I hy (by omega))) (frM_I hy (by omega))
  have m96 : ∀ (t : zσ) q, MG U len q t → MG U len q (sI (sI (sI t (y + 27) cd c2) (y + 28) cd d2) y 31 (nI (cd + 1))) := fun t q h => MG_I (by omega) (by omega) (MG_I (by omega) (by omega) (MG_I (by omega) (by omega) h))
  constructor
  · obtain ⟨t3, e3, g3, o3⟩ := m_next hn (m96 _ _ g1)
    refine ⟨t3, ?_, g3, frM_tr (frM_tr o1 (o96 _)) (frM_T hy (frT_N o3)), ?_, ?_, ?_, ?_, ?_, ?_, ?_⟩
    · rw [e95, yb0_s, e96 (sI t y 27 (nI (nd + 1))) (show t.2.2 1132 12 = some y from ER_y hS h) g1.2 (by rw [hIk (by decide)]; exact k2), yb0_s, e3]; rfl
    · rw [o3.2.1 14 (by decide) (by decide) (by decide) (by decide) (by decide), hIo (by omega), hIo (by omega), hIo (by omega), hIo (by omega)]
    · rw [(o3.1 y (by omega)).1, hIk (by decide), hIo (by omega), hIo (by omega), hIe]
    · rw [(o3.1 y (by omega)).1, hIe]
    · rw [(o3.1 y (by omega)).1, hIk (by decide), hIo (by omega), hIo (by omega), hIk (by decide)]
    · rw [(o3.1 (y + 35) (by omega)).1, hIo (by omega), hIo (by omega), hIo (by omega), hIo (by omega)]
    · rw [(o3.1 (y + 27) (by omega)).1, hIo (by omega), hIo (by omega), hIe]
    · rw [(o3.1 (y + 28) (by omega)).1, hIo (by omega), hIe]
  · obtain ⟨t3, e3, g3, o3⟩ := m_next hn g1
    refine ⟨sI (sI (sI t3 (y + 27) cd c2) (y + 28) cd d2) y 31 (nI (cd + 1)), ?_, m96 _ _ g3, frM_tr (frM_tr o1 (frM_T hy (frT_N o3))) (o96 _), ?_, ?_, hIe, ?_, ?_, ?_, ?_⟩
    · rw [e95, yb0_s, e3, yb0_s, e96 _ (by rw [o3.2.2.2]; exact (show t.2.2 1132 12 = some y from ER_y hS h)) g3.2 (by rw [(o3.1 y (by omega)).1, hIk (by decide)]; exact k2)]; rfl
    · rw [hIo (by omega), hIo (by omega), hIo (by omega), o3.2.1 14 (by decide) (by decide) (by decide) (by decide) (by decide), hIo (by omega)]
    · rw [hIk (by decide), hIo (by omega), hIo (by omega), (o3.1 y (by omega)).1, hIe]
    · rw [hIk (by decide), hIo (by omega), hIo (by omega), (o3.1 y (by omega)).1, hIk (by decide)]
    · rw [hIo (by omega), hIo (by omega), hIo (by omega), (o3.1 (y + 35) (by omega)).1, hIo (by omega)]
    · rw [hIo (by omega), hIo (by omega), hIe]
    · rw [hIo (by omega), hIe]
theorem lit_m0 {c2 : Int32} {d2 : zσ → Int32} (hn : 5000 ≤ n) (hS : S0 U len x y s0 t0) (h : ER U len x y s0 t0 K np tz G bl ub q dp nd cd us s t) (he : nd = 400) : fw (FM len y t0 3 q) (yb0 (f195 n t) fun u36 => yb0 (f196 n c2 (d2 u36) u36) fun u37 => yb0 (f164 n u37) fun u38 => some u38) ∧ fw (FM len y t0 3 q) (yb0 (f195 n t) fun u31 => yb0 (f164 n u31) fun u32 => yb0 (f196 n c2 (d2 u32) u32) fun u33 => some u33) := by
  have hy := hS.2.1
  obtain ⟨t2, e2, g2⟩ := (er_195 (n := n) hS h).2 he
  rw [e2, yb0_s, yb0_s]
  constructor
  · repeat' (first | (with_reducible assumption) | (with_reducible refine fw_some ?_) | (with_reducible exact ⟨rfl, by assumption⟩) | (with_reducible refine fms_rd hS (by assumption) ?_) | (with_reducible refine fms_167 (by assumption) ?_) | (with_reducible refine fms_173 (by assumption) ?_) | (with_reducible refine fms_172 (by assumption) ?_) | (with_reducible refine fms_179 (by assumption) ?_) | (with_reducible refine fms_164 hn hS (by assumption) (fun _ _ => ?_)) | (with_reducible refine fms_196 (by assumption) ?_) | (with_reducible refine fms_195 hS (by assumption) ?_) | (with_reducible refine fms_182 hS (by assumption) (fun _ _ => ?_)) | (with_reducible refine fms_189 (by assumption) ?_) | (with_reducible refine fms_190 (by assumption) ?_) | (with_reducible refine fms_178 (by assumption) ?_) | (with_reducible refine fms_I (by assumption) hy ?_ (fun _ => ?_)) | (with_reducible refine fw_z ?_) | (with_reducible refine fw_i1 rfl ?_) | (with_reducible refine fw_i1 (by assumption) ?_) | (with_reducible refine fw_i0 (by assumption) ?_) | (refine fw_i0 (by decide) ?_) | (refine fw_i1 (by decide) ?_) | (omega) | (decide))
  · repeat' (first | (with_reducible assumption) | (with_reducible refine fw_some ?_) | (with_reducible exact ⟨rfl, by assumption⟩) | (with_reducible refine fms_rd hS (by assumption) ?_) | (with_reducible refine fms_167 (by assumption) ?_) | (with_reducible refine fms_173 (by assumption) ?_) | (with_reducible refine fms_172 (by assumption) ?_) | (with_reducible refine fms_179 (by assumption) ?_) | (with_reducible refine fms_164 hn hS (by assumption) (fun _ _ => ?_)) | (with_reducible refine fms_196 (by assumption) ?_) | (with_reducible refine fms_195 hS (by assumption) ?_) | (with_reducible refine fms_182 hS (by assumption) (fun _ _ => ?_)) | (with_reducible refine fms_189 (by assumption) ?_) | (with_reducible refine fms_190 (by assumption) ?_) | (with_reducible refine fms_178 (by assumption) ?_) | (with_reducible refine fms_I (by assumption) hy ?_ (fun _ => ?_)) | (with_reducible refine fw_z ?_) | (with_reducible refine fw_i1 rfl ?_) | (with_reducible refine fw_i1 (by assumption) ?_) | (with_reducible refine fw_i0 (by assumption) ?_) | (refine fw_i0 (by decide) ?_) | (refine fw_i1 (by decide) ?_) | (omega) | (decide))
theorem fa_body {g g2 : zσ → Option zσ} {D : Nat} (hQ : HQ n U len x y s0 t0 K tz G ub) (hG : ∀ dp, D ≤ dp → dp < 12 → EB n U len x y s0 t0 K np tz G bl ub 1 (dp + 1) g g2) (hX : ∀ dp, D ≤ dp → dp < 12 → EB n U len x y s0 t0 K np tz G bl ub 4 (dp + 1) (f49 n g) (f191 n g2)) (hg : ∀ t, bk (fun u => u) (LR np y tz) (g2 t) t) : EB n U len x y s0 t0 K np tz G bl ub 1 D (f52b n g) (f194b n g2) := by
  obtain ⟨hn, hS, hub, -⟩ := id hQ
  have hx := hS.1
  have hy := hS.2.1
  have hbX := b191 (np := np) (tz := tz) hn hy hg
  refine ⟨fun q dp nd cd us s t hD h H => ?_, fun f z s h => fc_52b hn hS h, fun f z t h => ?_, fun t => b194b hn hy hg t⟩
  rotate_left
  · unfold f194b
    repeat' (first | (with_reducible assumption) | (with_reducible refine fw_some ?_) | (with_reducible exact ⟨rfl, by assumption⟩) | (with_reducible refine fms_rd hS (by assumption) ?_) | (with_reducible refine fms_167 (by assumption) ?_) | (with_reducible refine fms_173 (by assumption) ?_) | (with_reducible refine fms_172 (by assumption) ?_) | (with_reducible refine fms_179 (by assumption) ?_) | (with_reducible refine fms_164 hn hS (by assumption) (fun _ _ => ?_)) | (with_reducible refine fms_196 (by assumption) ?_) | (with_reducible refine fms_195 hS (by assumption) ?_) | (with_reducible refine fms_182 hS (by assumption) (fun _ _ => ?_)) | (with_reducible refine fms_189 (by assumption) ?_) | (with_reducible refine fms_190 (by assumption) ?_) | (with_reducible refine fms_178 (by assumption) ?_) | (with_reducible refine fms_I (by assumption) hy ?_ (fun _ => ?_)) | (with_reducible refine fw_z ?_) | (with_reducible refine fw_i1 rfl ?_) | (with_reducible refine fw_i1 (by assumption) ?_) | (with_reducible refine fw_i0 (by assumption) ?_) | (refine fw_i0 (by decide) ?_) | (refine fw_i1 (by decide) ?_) | (omega) | (decide))
  have hM := h.2.1.2
  obtain ⟨hq, hU, hl⟩ := ER_q h
  have hcn := h.2.2.2.2.2.1.2.2
  have hun := h.2.2.2.2.2.2.1.2
  have k2 := (tm_kind hM.1).2.1
  have nm := tm_name hn hM.1
  have w45 : f170 n 45 t = some (zone (decide (tkKind U len q = 142)), t) := tm_word (w := 14) hn hM.1 (by decide) (by decide) (by decide +kernel)
  have w46 : f170 n 46 t = some (zone (decide (tkKind U len q = 144)), t) := tm_word (w := 16) hn hM.1 (by decide) (by decide) (by decide +kernel)
  have w47 : f170 n 47 t = some (zone (decide (tkKind U len q = 143)), t) := tm_word (w := 15) hn hM.1 (by decide) (by decide) (by decide +kernel)
  have s45 : f177 n 45 t = some (zone (decide (tkKind U len q = 45)), t) := tm_sign (c := 45) hM.1 (by decide) (by decide)
  have s40 : f177 n 40 t = some (zone (decide (tkKind U len q = 40)), t) := tm_sign (c := 40) hM.1 (by decide) (by decide)
  have hCk := ER_k h
  have hgo := m_goes (n := n) hM.2
  by_cases e40 : tkKind U len q = 40
  · have ec : f52b n g s = yb1 (f41 n (40 : Int32) s) fun v13 u12 => if v13 = (0 : Int32) then some u12 else yb0 (f49 n g u12) fun u14 => yb0 (f37 n (41 : Int32) u14) fun u15 => zlet (sI u15 1004 9 ((u15.1 1004 9) - (1 : Int32))) fun u16 => some u16 := by
      unfold f52b
      rw [hCk, e40]
      rfl
    have em : f194b n g2 t = yb0 (f182 n t) fun u16 => yb1 (f167 n u16) fun v18 u17 => if v18 = (0 : Int32) then some u17 else yb0 (f164 n u17) fun u19 => yb0 (f191 n g2 u19) fun u20 => yb0 (f179 n (41 : Int32) u20) fun u21 => zlet (sI u21 1132 14 ((u21.1 1132 14) - (1 : Int32))) fun u22 => some u22 := by
      unfold f194b
      rw [hgo, yb1_s, if_neg (by decide), if_neg (fun e => absurd (e40.symm.trans (k2.mp e)) (by decide)), nm, yb1_s, zone_0 (by rw [e40]; decide), if_pos rfl, w45, yb1_s, zone_0 (by rw [e40]; decide), if_pos rfl, w46, yb1_s, zone_0 (by rw [e40]; decide), if_pos rfl, w47, yb1_s, zone_0 (by rw [e40]; decide), if_pos rfl, s45, yb1_s, zone_0 (by rw [e40]; decide), if_pos rfl, s40, yb1_s, zone_1 e40, if_neg (by decide)]
    rw [em] at H ⊢
    rw [ec]
    have hgt := tkNx_gt (U := U) (tk_lt h (by rw [e40]; decide))
    refine er_open (c := 40) (vc := fun u => u) (vm := fun u => u) hn hS h e40 (by rw [e40]; decide) H (fun u => ?_) (fun f z u h => h) (fun f z u h => h) (fun hlt s3 t3 hA H3 => ?_) (fun hlt f z u hF => ?_) (fun hlt f z u hM => ?_)
    · repeat' (first | (with_reducible exact hbX _) | (with_reducible exact b195 hy) | (with_reducible exact b164 hy) | (with_reducible exact b196 hy) | (with_reducible exact b182 hy) | (with_reducible exact b179 hy) | (with_reducible exact b172 hy) | (with_reducible exact b173 hy (by decide)) | (with_reducible exact b189 hn hy) | (with_reducible exact b190 hn hy _) | (with_reducible exact b178 hy) | (with_reducible exact bk_none) | (with_reducible exact bk_some LR_rf) | (with_reducible refine bk_ite (fun _ => ?_) (fun _ => ?_)) | (with_reducible refine bk_rdL ?_) | (with_reducible refine bk_zS LR_tr (LR_I ?_ ?_ ?_ ?_) ?_) | (with_reducible refine bk_zS LR_tr (LR_J ?_ ?_) ?_) | (with_reducible refine bk_zV ?_) | (with_reducible refine bk_y0 LR_tr ?_ (fun _ => ?_)) | (with_reducible refine bk_y1 LR_tr ?_ (fun _ _ => ?_)) | (with_reducible exact bk_pu pu_167 _) | (with_reducible exact bk_pu pu_177 _) | (with_reducible refine bk_pu (pu_170 hn ?_) _) | (with_reducible exact bk_pu (pu_175 hn) _) | (omega) | (decide))
    · obtain ⟨hB1, hB2, hB3, hB4⟩ := hX dp hD hlt
      refine st00 H3 (ER_y hS hA.2) (hB4 _) (fun u => ?_) (hB1 _ _ _ _ _ _ _ (Nat.le_refl _) hA.2) (fun f z a hF => ?_) (fun f z b hM => ?_) (fun s4 t4 hA2 H4 => ?_)
      · repeat' (first | (with_reducible exact b195 hy) | (with_reducible exact b164 hy) | (with_reducible exact b196 hy) | (with_reducible exact b182 hy) | (with_reducible exact b179 hy) | (with_reducible exact b172 hy) | (with_reducible exact b173 hy (by decide)) | (with_reducible exact b189 hn hy) | (with_reducible exact b190 hn hy _) | (with_reducible exact b178 hy) | (with_reducible exact bk_none) | (with_reducible exact bk_some LR_rf) | (with_reducible refine bk_ite (fun _ => ?_) (fun _ => ?_)) | (with_reducible refine bk_rdL ?_) | (with_reducible refine bk_zS LR_tr (LR_I ?_ ?_ ?_ ?_) ?_) | (with_reducible refine bk_zS LR_tr (LR_J ?_ ?_) ?_) | (with_reducible refine bk_zV ?_) | (with_reducible refine bk_y0 LR_tr ?_ (fun _ => ?_)) | (with_reducible refine bk_y1 LR_tr ?_ (fun _ _ => ?_)) | (with_reducible exact bk_pu pu_167 _) | (with_reducible exact bk_pu pu_177 _) | (with_reducible refine bk_pu (pu_170 hn ?_) _) | (with_reducible exact bk_pu (pu_175 hn) _) | (omega) | (decide))
      · repeat' (first | (with_reducible assumption) | (with_reducible refine fw_some ?_) | (with_reducible exact ⟨rfl, by assumption⟩) | (with_reducible refine fcs_r5 hS (by assumption) ?_) | (with_reducible refine fcs_r6 hS (by assumption) ?_) | (with_reducible refine fcs_r4 hS (by assumption) ?_) | (with_reducible refine fcs_32 (by assumption) ?_) | (with_reducible refine fcs_26 (by assumption) ?_) | (with_reducible refine fcs_37 (by assumption) ?_ ?_) | (with_reducible refine fcs_39 (by assumption) ?_ ?_) | (with_reducible refine fcs_41 (by assumption) ?_ ?_) | (with_reducible refine fcs_57 (by assumption) ?_) | (with_reducible refine fcs_58 hS (by assumption) ?_) | (with_reducible refine fcs_53 hS (by assumption) (fun _ _ => ?_)) | (with_reducible refine fcs_54 hx (by assumption) (fun _ _ => ?_)) | (with_reducible refine fcs_I (by assumption) hx ?_ ?_ ?_ (fun _ => ?_)) | (with_reducible refine fw_z ?_) | (with_reducible refine fw_i1 rfl ?_) | (with_reducible refine fw_i1 (by assumption) ?_) | (with_reducible refine fw_i0 (by assumption) ?_) | (with_reducible refine fw_i0 (fc_k (by assumption) ?_) ?_) | (with_reducible refine fcs_k (by assumption) ?_) | (refine fw_i0 (by decide) ?_) | (refine fw_i1 (by decide) ?_) | (omega) | (decide))
      · repeat' (first | (with_reducible assumption) | (with_reducible refine fw_some ?_) | (with_reducible exact ⟨rfl, by assumption⟩) | (with_reducible refine fms_rd hS (by assumption) ?_) | (with_reducible refine fms_167 (by assumption) ?_) | (with_reducible refine fms_173 (by assumption) ?_) | (with_reducible refine fms_172 (by assumption) ?_) | (with_reducible refine fms_179 (by assumption) ?_) | (with_reducible refine fms_164 hn hS (by assumption) (fun _ _ => ?_)) | (with_reducible refine fms_196 (by assumption) ?_) | (with_reducible refine fms_195 hS (by assumption) ?_) | (with_reducible refine fms_182 hS (by assumption) (fun _ _ => ?_)) | (with_reducible refine fms_189 (by assumption) ?_) | (with_reducible refine fms_190 (by assumption) ?_) | (with_reducible refine fms_178 (by assumption) ?_) | (with_reducible refine fms_I (by assumption) hy ?_ (fun _ => ?_)) | (with_reducible refine fw_z ?_) | (with_reducible refine fw_i1 rfl ?_) | (with_reducible refine fw_i1 (by assumption) ?_) | (with_reducible refine fw_i0 (by assumption) ?_) | (refine fw_i0 (by decide) ?_) | (refine fw_i1 (by decide) ?_) | (omega) | (decide))
      obtain ⟨q4, nd4, cd4, us4, hP⟩ := hA2
      have hE4 := hP.2.2.1.2
      have hb := hP.2.1
      have hb1 := hP.1.1
      refine st00 H4 (ER_y hS hE4) (b179 hy) (fun u => ?_) (er_want (c := 41) hn hS (by decide) (by decide) hE4) (fun f z a hF => ?_) (fun f z b hM => ?_) (fun s5 t5 hA3 H5 => ?_)
      · repeat' (first | (with_reducible exact b195 hy) | (with_reducible exact b164 hy) | (with_reducible exact b196 hy) | (with_reducible exact b182 hy) | (with_reducible exact b179 hy) | (with_reducible exact b172 hy) | (with_reducible exact b173 hy (by decide)) | (with_reducible exact b189 hn hy) | (with_reducible exact b190 hn hy _) | (with_reducible exact b178 hy) | (with_reducible exact bk_none) | (with_reducible exact bk_some LR_rf) | (with_reducible refine bk_ite (fun _ => ?_) (fun _ => ?_)) | (with_reducible refine bk_rdL ?_) | (with_reducible refine bk_zS LR_tr (LR_I ?_ ?_ ?_ ?_) ?_) | (with_reducible refine bk_zS LR_tr (LR_J ?_ ?_) ?_) | (with_reducible refine bk_zV ?_) | (with_reducible refine bk_y0 LR_tr ?_ (fun _ => ?_)) | (with_reducible refine bk_y1 LR_tr ?_ (fun _ _ => ?_)) | (with_reducible exact bk_pu pu_167 _) | (with_reducible exact bk_pu pu_177 _) | (with_reducible refine bk_pu (pu_170 hn ?_) _) | (with_reducible exact bk_pu (pu_175 hn) _) | (omega) | (decide))
      · repeat' (first | (with_reducible assumption) | (with_reducible refine fw_some ?_) | (with_reducible exact ⟨rfl, by assumption⟩) | (with_reducible refine fcs_r5 hS (by assumption) ?_) | (with_reducible refine fcs_r6 hS (by assumption) ?_) | (with_reducible refine fcs_r4 hS (by assumption) ?_) | (with_reducible refine fcs_32 (by assumption) ?_) | (with_reducible refine fcs_26 (by assumption) ?_) | (with_reducible refine fcs_37 (by assumption) ?_ ?_) | (with_reducible refine fcs_39 (by assumption) ?_ ?_) | (with_reducible refine fcs_41 (by assumption) ?_ ?_) | (with_reducible refine fcs_57 (by assumption) ?_) | (with_reducible refine fcs_58 hS (by assumption) ?_) | (with_reducible refine fcs_53 hS (by assumption) (fun _ _ => ?_)) | (with_reducible refine fcs_54 hx (by assumption) (fun _ _ => ?_)) | (with_reducible refine fcs_I (by assumption) hx ?_ ?_ ?_ (fun _ => ?_)) | (with_reducible refine fw_z ?_) | (with_reducible refine fw_i1 rfl ?_) | (with_reducible refine fw_i1 (by assumption) ?_) | (with_reducible refine fw_i0 (by assumption) ?_) | (with_reducible refine fw_i0 (fc_k (by assumption) ?_) ?_) | (with_reducible refine fcs_k (by assumption) ?_) | (refine fw_i0 (by decide) ?_) | (refine fw_i1 (by decide) ?_) | (omega) | (decide))
      · repeat' (first | (with_reducible assumption) | (with_reducible refine fw_some ?_) | (with_reducible exact ⟨rfl, by assumption⟩) | (with_reducible refine fms_rd hS (by assumption) ?_) | (with_reducible refine fms_167 (by assumption) ?_) | (with_reducible refine fms_173 (by assumption) ?_) | (with_reducible refine fms_172 (by assumption) ?_) | (with_reducible refine fms_179 (by assumption) ?_) | (with_reducible refine fms_164 hn hS (by assumption) (fun _ _ => ?_)) | (with_reducible refine fms_196 (by assumption) ?_) | (with_reducible refine fms_195 hS (by assumption) ?_) | (with_reducible refine fms_182 hS (by assumption) (fun _ _ => ?_)) | (with_reducible refine fms_189 (by assumption) ?_) | (with_reducible refine fms_190 (by assumption) ?_) | (with_reducible refine fms_178 (by assumption) ?_) | (with_reducible refine fms_I (by assumption) hy ?_ (fun _ => ?_)) | (with_reducible refine fw_z ?_) | (with_reducible refine fw_i1 rfl ?_) | (with_reducible refine fw_i1 (by assumption) ?_) | (with_reducible refine fw_i0 (by assumption) ?_) | (refine fw_i0 (by decide) ?_) | (refine fw_i1 (by decide) ?_) | (omega) | (decide))
      have hC6 := er_close hS hA3.2.2
      have hg5 := tkNx_gt (U := U) hA3.1.1
      refine Rs_A (a := sI s5 1004 9 (s5.1 1004 9 - 1)) (b := sI t5 1132 14 (t5.1 1132 14 - 1)) rfl rfl ⟨_, nd4, cd4, us4, ⟨by omega, Or.inl (by omega)⟩, ⟨by omega, by omega, by omega, by omega, by omega⟩, ⟨EC_tr (EC_tr (EC_tr hA.1 hP.2.2.1.1 (by omega) (by omega)) hA3.2.1 (by omega) (by omega)) hC6.1 (by omega) (by omega), hC6.2⟩, fun hK => sg_up (show 4 + 3 * (12 - (dp + 1)) ≤ 1 + 3 * (12 - dp) by omega) (sg_fr (fun p hp => ?_) (hP.2.2.2 hK))⟩
      have f2 := hC6.1.2.2.1 hK p hp
      have f3 := hA3.2.1.2.2.1 hK p hp
      exact ⟨f2.1.trans f3.1, f2.2.trans f3.2⟩
    · have hFX := (hX dp hD hlt).2.1
      repeat' (first | (with_reducible refine fw_y0 (hFX _ _ _ (by assumption)) (fun _ _ => ?_)) | (with_reducible assumption) | (with_reducible refine fw_some ?_) | (with_reducible exact ⟨rfl, by assumption⟩) | (with_reducible refine fcs_r5 hS (by assumption) ?_) | (with_reducible refine fcs_r6 hS (by assumption) ?_) | (with_reducible refine fcs_r4 hS (by assumption) ?_) | (with_reducible refine fcs_32 (by assumption) ?_) | (with_reducible refine fcs_26 (by assumption) ?_) | (with_reducible refine fcs_37 (by assumption) ?_ ?_) | (with_reducible refine fcs_39 (by assumption) ?_ ?_) | (with_reducible refine fcs_41 (by assumption) ?_ ?_) | (with_reducible refine fcs_57 (by assumption) ?_) | (with_reducible refine fcs_58 hS (by assumption) ?_) | (with_reducible refine fcs_53 hS (by assumption) (fun _ _ => ?_)) | (with_reducible refine fcs_54 hx (by assumption) (fun _ _ => ?_)) | (with_reducible refine fcs_I (by assumption) hx ?_ ?_ ?_ (fun _ => ?_)) | (with_reducible refine fw_z ?_) | (with_reducible refine fw_i1 rfl ?_) | (with_reducible refine fw_i1 (by assumption) ?_) | (with_reducible refine fw_i0 (by assumption) ?_) | (with_reducible refine fw_i0 (fc_k (by assumption) ?_) ?_) | (with_reducible refine fcs_k (by assumption) ?_) | (refine fw_i0 (by decide) ?_) | (refine fw_i1 (by decide) ?_) | (omega) | (decide))
    · have hMX := (hX dp hD hlt).2.2.1
      repeat' (first | (with_reducible refine fw_y0 (hMX _ _ _ (by assumption)) (fun _ _ => ?_)) | (with_reducible assumption) | (with_reducible refine fw_some ?_) | (with_reducible exact ⟨rfl, by assumption⟩) | (with_reducible refine fms_rd hS (by assumption) ?_) | (with_reducible refine fms_167 (by assumption) ?_) | (with_reducible refine fms_173 (by assumption) ?_) | (with_reducible refine fms_172 (by assumption) ?_) | (with_reducible refine fms_179 (by assumption) ?_) | (with_reducible refine fms_164 hn hS (by assumption) (fun _ _ => ?_)) | (with_reducible refine fms_196 (by assumption) ?_) | (with_reducible refine fms_195 hS (by assumption) ?_) | (with_reducible refine fms_182 hS (by assumption) (fun _ _ => ?_)) | (with_reducible refine fms_189 (by assumption) ?_) | (with_reducible refine fms_190 (by assumption) ?_) | (with_reducible refine fms_178 (by assumption) ?_) | (with_reducible refine fms_I (by assumption) hy ?_ (fun _ => ?_)) | (with_reducible refine fw_z ?_) | (with_reducible refine fw_i1 rfl ?_) | (with_reducible refine fw_i1 (by assumption) ?_) | (with_reducible refine fw_i0 (by assumption) ?_) | (refine fw_i0 (by decide) ?_) | (refine fw_i1 (by decide) ?_) | (omega) | (decide))
  · by_cases e45 : tkKind U len q = 45
    · have ec : f52b n g s = yb0 (f53 n s) fun u5 => yb1 (f41 n (45 : Int32) u5) fun v7 u6 => if v7 = (0 : Int32) then some u6 else yb0 (g u6) fun u8 => zlet (sI u8 1004 9 ((u8.1 1004 9) - (1 : Int32))) fun u9 => zrd 6 (u9.2.2 1004 5) fun a10 => yb0 (f54 n a10 (5 : Int32) (0 : Int32) u9) fun u11 => some u11 := by
        unfold f52b
        rw [hCk, e45]
        rfl
      have em : f194b n g2 t = yb0 (f195 n t) fun u23 => yb0 (f182 n u23) fun u24 => yb1 (f167 n u24) fun v26 u25 => if v26 = (0 : Int32) then some u25 else yb0 (f164 n u25) fun u27 => yb0 (g2 u27) fun u28 => zlet (sI u28 1132 14 ((u28.1 1132 14) - (1 : Int32))) fun u29 => yb0 (f196 n (6 : Int32) (0 : Int32) u29) fun u30 => some u30 := by
        unfold f194b
        rw [hgo, yb1_s, if_neg (by decide), if_neg (fun e => absurd (e45.symm.trans (k2.mp e)) (by decide)), nm, yb1_s, zone_0 (by rw [e45]; decide), if_pos rfl, w45, yb1_s, zone_0 (by rw [e45]; decide), if_pos rfl, w46, yb1_s, zone_0 (by rw [e45]; decide), if_pos rfl, w47, yb1_s, zone_0 (by rw [e45]; decide), if_pos rfl, s45, yb1_s, zone_1 e45, if_neg (by decide)]
      rw [em] at H ⊢
      rw [ec]
      have hk0 : ¬ tkKind U len q = 0 := by rw [e45]; decide
      have hgt := tkNx_gt (U := U) (tk_lt h (by rw [e45]; decide))
      refine st00 H (ER_y hS h) (b195 hy) (fun u => ?_) (er_cnt hS h hk0) (fun f z a hF => ?_) (fun f z b hM => ?_) (fun s1 t1 hA H2 => ?_)
      · repeat' (first | (with_reducible exact hg _) | (with_reducible exact b195 hy) | (with_reducible exact b164 hy) | (with_reducible exact b196 hy) | (with_reducible exact b182 hy) | (with_reducible exact b179 hy) | (with_reducible exact b172 hy) | (with_reducible exact b173 hy (by decide)) | (with_reducible exact b189 hn hy) | (with_reducible exact b190 hn hy _) | (with_reducible exact b178 hy) | (with_reducible exact bk_none) | (with_reducible exact bk_some LR_rf) | (with_reducible refine bk_ite (fun _ => ?_) (fun _ => ?_)) | (with_reducible refine bk_rdL ?_) | (with_reducible refine bk_zS LR_tr (LR_I ?_ ?_ ?_ ?_) ?_) | (with_reducible refine bk_zS LR_tr (LR_J ?_ ?_) ?_) | (with_reducible refine bk_zV ?_) | (with_reducible refine bk_y0 LR_tr ?_ (fun _ => ?_)) | (with_reducible refine bk_y1 LR_tr ?_ (fun _ _ => ?_)) | (with_reducible exact bk_pu pu_167 _) | (with_reducible exact bk_pu pu_177 _) | (with_reducible refine bk_pu (pu_170 hn ?_) _) | (with_reducible exact bk_pu (pu_175 hn) _) | (omega) | (decide))
      · repeat' (first | (with_reducible assumption) | (with_reducible refine fw_some ?_) | (with_reducible exact ⟨rfl, by assumption⟩) | (with_reducible refine fcs_r5 hS (by assumption) ?_) | (with_reducible refine fcs_r6 hS (by assumption) ?_) | (with_reducible refine fcs_r4 hS (by assumption) ?_) | (with_reducible refine fcs_32 (by assumption) ?_) | (with_reducible refine fcs_26 (by assumption) ?_) | (with_reducible refine fcs_37 (by assumption) ?_ ?_) | (with_reducible refine fcs_39 (by assumption) ?_ ?_) | (with_reducible refine fcs_41 (by assumption) ?_ ?_) | (with_reducible refine fcs_57 (by assumption) ?_) | (with_reducible refine fcs_58 hS (by assumption) ?_) | (with_reducible refine fcs_53 hS (by assumption) (fun _ _ => ?_)) | (with_reducible refine fcs_54 hx (by assumption) (fun _ _ => ?_)) | (with_reducible refine fcs_I (by assumption) hx ?_ ?_ ?_ (fun _ => ?_)) | (with_reducible refine fw_z ?_) | (with_reducible refine fw_i1 rfl ?_) | (with_reducible refine fw_i1 (by assumption) ?_) | (with_reducible refine fw_i0 (by assumption) ?_) | (with_reducible refine fw_i0 (fc_k (by assumption) ?_) ?_) | (with_reducible refine fcs_k (by assumption) ?_) | (refine fw_i0 (by decide) ?_) | (refine fw_i1 (by decide) ?_) | (omega) | (decide))
      · repeat' (first | (with_reducible assumption) | (with_reducible refine fw_some ?_) | (with_reducible exact ⟨rfl, by assumption⟩) | (with_reducible refine fms_rd hS (by assumption) ?_) | (with_reducible refine fms_167 (by assumption) ?_) | (with_reducible refine fms_173 (by assumption) ?_) | (with_reducible refine fms_172 (by assumption) ?_) | (with_reducible refine fms_179 (by assumption) ?_) | (with_reducible refine fms_164 hn hS (by assumption) (fun _ _ => ?_)) | (with_reducible refine fms_196 (by assumption) ?_) | (with_reducible refine fms_195 hS (by assumption) ?_) | (with_reducible refine fms_182 hS (by assumption) (fun _ _ => ?_)) | (with_reducible refine fms_189 (by assumption) ?_) | (with_reducible refine fms_190 (by assumption) ?_) | (with_reducible refine fms_178 (by assumption) ?_) | (with_reducible refine fms_I (by assumption) hy ?_ (fun _ => ?_)) | (with_reducible refine fw_z ?_) | (with_reducible refine fw_i1 rfl ?_) | (with_reducible refine fw_i1 (by assumption) ?_) | (with_reducible refine fw_i0 (by assumption) ?_) | (refine fw_i0 (by decide) ?_) | (refine fw_i1 (by decide) ?_) | (omega) | (decide))
      obtain ⟨hnd, hC1, hE1⟩ := hA
      refine er_open (c := 45) (vc := fun u => u) (vm := fun u => u) hn hS hE1 e45 hk0 H2 (fun u => ?_) (fun f z u h => h) (fun f z u h => h) (fun hlt s3 t3 hA H3 => ?_) (fun hlt f z u hF => ?_) (fun hlt f z u hM => ?_)
      · repeat' (first | (with_reducible exact hg _) | (with_reducible exact b195 hy) | (with_reducible exact b164 hy) | (with_reducible exact b196 hy) | (with_reducible exact b182 hy) | (with_reducible exact b179 hy) | (with_reducible exact b172 hy) | (with_reducible exact b173 hy (by decide)) | (with_reducible exact b189 hn hy) | (with_reducible exact b190 hn hy _) | (with_reducible exact b178 hy) | (with_reducible exact bk_none) | (with_reducible exact bk_some LR_rf) | (with_reducible refine bk_ite (fun _ => ?_) (fun _ => ?_)) | (with_reducible refine bk_rdL ?_) | (with_reducible refine bk_zS LR_tr (LR_I ?_ ?_ ?_ ?_) ?_) | (with_reducible refine bk_zS LR_tr (LR_J ?_ ?_) ?_) | (with_reducible refine bk_zV ?_) | (with_reducible refine bk_y0 LR_tr ?_ (fun _ => ?_)) | (with_reducible refine bk_y1 LR_tr ?_ (fun _ _ => ?_)) | (with_reducible exact bk_pu pu_167 _) | (with_reducible exact bk_pu pu_177 _) | (with_reducible refine bk_pu (pu_170 hn ?_) _) | (with_reducible exact bk_pu (pu_175 hn) _) | (omega) | (decide))
      · obtain ⟨hB1, hB2, hB3, hB4⟩ := hG dp hD hlt
        refine st00 H3 (ER_y hS hA.2) (hB4 _) (fun u => ?_) (hB1 _ _ _ _ _ _ _ (Nat.le_refl _) hA.2) (fun f z a hF => ?_) (fun f z b hM => ?_) (fun s4 t4 hA2 H4 => ?_)
        · repeat' (first | (with_reducible exact b195 hy) | (with_reducible exact b164 hy) | (with_reducible exact b196 hy) | (with_reducible exact b182 hy) | (with_reducible exact b179 hy) | (with_reducible exact b172 hy) | (with_reducible exact b173 hy (by decide)) | (with_reducible exact b189 hn hy) | (with_reducible exact b190 hn hy _) | (with_reducible exact b178 hy) | (with_reducible exact bk_none) | (with_reducible exact bk_some LR_rf) | (with_reducible refine bk_ite (fun _ => ?_) (fun _ => ?_)) | (with_reducible refine bk_rdL ?_) | (with_reducible refine bk_zS LR_tr (LR_I ?_ ?_ ?_ ?_) ?_) | (with_reducible refine bk_zS LR_tr (LR_J ?_ ?_) ?_) | (with_reducible refine bk_zV ?_) | (with_reducible refine bk_y0 LR_tr ?_ (fun _ => ?_)) | (with_reducible refine bk_y1 LR_tr ?_ (fun _ _ => ?_)) | (with_reducible exact bk_pu pu_167 _) | (with_reducible exact bk_pu pu_177 _) | (with_reducible refine bk_pu (pu_170 hn ?_) _) | (with_reducible exact bk_pu (pu_175 hn) _) | (omega) | (decide))
        · repeat' (first | (with_reducible assumption) | (with_reducible refine fw_some ?_) | (with_reducible exact ⟨rfl, by assumption⟩) | (with_reducible refine fcs_r5 hS (by assumption) ?_) | (with_reducible refine fcs_r6 hS (by assumption) ?_) | (with_reducible refine fcs_r4 hS (by assumption) ?_) | (with_reducible refine fcs_32 (by assumption) ?_) | (with_reducible refine fcs_26 (by assumption) ?_) | (with_reducible refine fcs_37 (by assumption) ?_ ?_) | (with_reducible refine fcs_39 (by assumption) ?_ ?_) | (with_reducible refine fcs_41 (by assumption) ?_ ?_) | (with_reducible refine fcs_57 (by assumption) ?_) | (with_reducible refine fcs_58 hS (by assumption) ?_) | (with_reducible refine fcs_53 hS (by assumption) (fun _ _ => ?_)) | (with_reducible refine fcs_54 hx (by assumption) (fun _ _ => ?_)) | (with_reducible refine fcs_I (by assumption) hx ?_ ?_ ?_ (fun _ => ?_)) | (with_reducible refine fw_z ?_) | (with_reducible refine fw_i1 rfl ?_) | (with_reducible refine fw_i1 (by assumption) ?_) | (with_reducible refine fw_i0 (by assumption) ?_) | (with_reducible refine fw_i0 (fc_k (by assumption) ?_) ?_) | (with_reducible refine fcs_k (by assumption) ?_) | (refine fw_i0 (by decide) ?_) | (refine fw_i1 (by decide) ?_) | (omega) | (decide))
        · repeat' (first | (with_reducible assumption) | (with_reducible refine fw_some ?_) | (with_reducible exact ⟨rfl, by assumption⟩) | (with_reducible refine fms_rd hS (by assumption) ?_) | (with_reducible refine fms_167 (by assumption) ?_) | (with_reducible refine fms_173 (by assumption) ?_) | (with_reducible refine fms_172 (by assumption) ?_) | (with_reducible refine fms_179 (by assumption) ?_) | (with_reducible refine fms_164 hn hS (by assumption) (fun _ _ => ?_)) | (with_reducible refine fms_196 (by assumption) ?_) | (with_reducible refine fms_195 hS (by assumption) ?_) | (with_reducible refine fms_182 hS (by assumption) (fun _ _ => ?_)) | (with_reducible refine fms_189 (by assumption) ?_) | (with_reducible refine fms_190 (by assumption) ?_) | (with_reducible refine fms_178 (by assumption) ?_) | (with_reducible refine fms_I (by assumption) hy ?_ (fun _ => ?_)) | (with_reducible refine fw_z ?_) | (with_reducible refine fw_i1 rfl ?_) | (with_reducible refine fw_i1 (by assumption) ?_) | (with_reducible refine fw_i0 (by assumption) ?_) | (refine fw_i0 (by decide) ?_) | (refine fw_i1 (by decide) ?_) | (omega) | (decide))
        obtain ⟨q4, nd4, cd4, us4, hP⟩ := hA2
        have hE4 := hP.2.2.1.2
        have hb := hP.2.1
        have hb1 := hP.1.1
        obtain ⟨hC6, hE6⟩ := er_close hS hE4
        show Rs _ _ _ _ (zrd 6 ((sI s4 1004 9 (s4.1 1004 9 - 1)).2.2 1004 5) _) (yb0 (f196 n 6 0 (sI t4 1132 14 (t4.1 1132 14 - 1))) _)
        rw [ER_5 hS hE6, grd (gck9 hx).2.1, y0s, y0s]
        have H6 : Hb (fun u => u) K np y tz (f196 n 6 0 (sI t4 1132 14 (t4.1 1132 14 - 1))) := by
          have := H4
          simp only [zlet, y0s] at this
          exact this
        refine Rs_w (er_emit hS hE6 (by omega) H6) (fun a b _ _ hab => ⟨_, nd4, cd4 + 1, us4, ⟨by omega, Or.inl (by omega)⟩, ⟨by omega, by omega, by omega, by omega, by omega⟩, ⟨EC_tr (EC_tr (EC_tr (EC_tr hC1 hA.1 (by omega) (by omega)) hP.2.2.1.1 (by omega) (by omega)) hC6 (by omega) (by omega)) hab.1.1 (by omega) (by omega), hab.1.2⟩, fun hK => ?_⟩)
        obtain ⟨c1, c2, c3, c4⟩ := hab.2 hK
        obtain ⟨g13, gM⟩ := tC_k (k := 6) hQ (by omega) c3
        refine sg_un (Or.inr g13) (sg_up (show 1 + 3 * (12 - (dp + 1)) ≤ 1 + 3 * (12 - dp) by omega) (sg_fr (fun p hp => ?_) (hP.2.2.2 hK))) ⟨gM, Or.inr (Or.inr (Or.inr (Or.inr (Or.inr (Or.inr (Or.inl ⟨g13, c1⟩))))))⟩
        have f1 := hab.1.1.2.2.1 hK p hp
        have f2 := hC6.2.2.1 hK p hp
        exact ⟨f1.1.trans f2.1, f1.2.trans f2.2⟩
      · have hFG := (hG dp hD hlt).2.1
        repeat' (first | (with_reducible refine fw_y0 (hFG _ _ _ (by assumption)) (fun _ _ => ?_)) | (with_reducible assumption) | (with_reducible refine fw_some ?_) | (with_reducible exact ⟨rfl, by assumption⟩) | (with_reducible refine fcs_r5 hS (by assumption) ?_) | (with_reducible refine fcs_r6 hS (by assumption) ?_) | (with_reducible refine fcs_r4 hS (by assumption) ?_) | (with_reducible refine fcs_32 (by assumption) ?_) | (with_reducible refine fcs_26 (by assumption) ?_) | (with_reducible refine fcs_37 (by assumption) ?_ ?_) | (with_reducible refine fcs_39 (by assumption) ?_ ?_) | (with_reducible refine fcs_41 (by assumption) ?_ ?_) | (with_reducible refine fcs_57 (by assumption) ?_) | (with_reducible refine fcs_58 hS (by assumption) ?_) | (with_reducible refine fcs_53 hS (by assumption) (fun _ _ => ?_)) | (with_reducible refine fcs_54 hx (by assumption) (fun _ _ => ?_)) | (with_reducible refine fcs_I (by assumption) hx ?_ ?_ ?_ (fun _ => ?_)) | (with_reducible refine fw_z ?_) | (with_reducible refine fw_i1 rfl ?_) | (with_reducible refine fw_i1 (by assumption) ?_) | (with_reducible refine fw_i0 (by assumption) ?_) | (with_reducible refine fw_i0 (fc_k (by assumption) ?_) ?_) | (with_reducible refine fcs_k (by assumption) ?_) | (refine fw_i0 (by decide) ?_) | (refine fw_i1 (by decide) ?_) | (omega) | (decide))
      · have hMG := (hG dp hD hlt).2.2.1
        repeat' (first | (with_reducible refine fw_y0 (hMG _ _ _ (by assumption)) (fun _ _ => ?_)) | (with_reducible assumption) | (with_reducible refine fw_some ?_) | (with_reducible exact ⟨rfl, by assumption⟩) | (with_reducible refine fms_rd hS (by assumption) ?_) | (with_reducible refine fms_167 (by assumption) ?_) | (with_reducible refine fms_173 (by assumption) ?_) | (with_reducible refine fms_172 (by assumption) ?_) | (with_reducible refine fms_179 (by assumption) ?_) | (with_reducible refine fms_164 hn hS (by assumption) (fun _ _ => ?_)) | (with_reducible refine fms_196 (by assumption) ?_) | (with_reducible refine fms_195 hS (by assumption) ?_) | (with_reducible refine fms_182 hS (by assumption) (fun _ _ => ?_)) | (with_reducible refine fms_189 (by assumption) ?_) | (with_reducible refine fms_190 (by assumption) ?_) | (with_reducible refine fms_178 (by assumption) ?_) | (with_reducible refine fms_I (by assumption) hy ?_ (fun _ => ?_)) | (with_reducible refine fw_z ?_) | (with_reducible refine fw_i1 rfl ?_) | (with_reducible refine fw_i1 (by assumption) ?_) | (with_reducible refine fw_i0 (by assumption) ?_) | (refine fw_i0 (by decide) ?_) | (refine fw_i1 (by decide) ?_) | (omega) | (decide))
    · by_cases e1 : tkKind U len q = 1
      · have ec : f52b n g s = f55 n g s := by
          unfold f52b
          rw [hCk, e1]
          exact y0s
        have em : f194b n g2 t = yb0 (f195 n t) (f197 n g2) := by
          unfold f194b
          rw [hgo, yb1_s, if_neg (by decide), if_neg (fun e => absurd (e1.symm.trans (k2.mp e)) (by decide)), nm, yb1_s, zone_1 e1, if_neg (by decide)]
          simp only [y0s]
        rw [em] at H ⊢
        rw [ec]
        exact named hQ (hX dp hD) hg h e1 H
      · by_cases e2 : tkKind U len q = 2
        · have ec : f52b n g s = f52_115 n g 2 s := by
            unfold f52b
            rw [hCk, e2]
            rfl
          have em : f194b n g2 t = yb0 (f195 n t) fun u36 => yb0 (f196 n (0 : Int32) (u36.1 1132 7) u36) fun u37 => yb0 (f164 n u37) fun u38 => some u38 := by
            unfold f194b
            rw [hgo, yb1_s, if_neg (by decide), if_pos (k2.mpr e2)]
          rw [em] at H ⊢
          rw [ec]
          have hql := tk_lt h (by rw [e2]; decide)
          rcases Nat.lt_or_ge nd 400 with hlt | hge
          · have e95 := (er_195 (n := n) hS h).1 hlt
            have em2 : (yb0 (f195 n t) fun u36 => yb0 (f196 n (0 : Int32) (u36.1 1132 7) u36) fun u37 => yb0 (f164 n u37) fun u38 => some u38) = yb0 (f195 n t) fun u36 => yb0 (f196 n (0 : Int32) (t.1 1132 7) u36) fun u37 => yb0 (f164 n u37) fun u38 => some u38 := by
              rw [e95, yb0_s, yb0_s, hIo (by omega)]
            rw [em2] at H ⊢
            obtain ⟨t2, x1, x2, x3, x4, x5, x6, x7, x8, x9, x10⟩ := (lit_m (c2 := 0) (d2 := t.1 1132 7) hn hS h hlt).1
            have hnb : t.1 1132 7 = s.1 1001 6 := by
              have hfg : zfgU (U q) = true ∧ tkEnd U len q - q ≤ 9 := by
                rcases tk_cases hU hq with ⟨-, e, -⟩ | ⟨-, e, -⟩ | ⟨-, -, ⟨w, hw, -, e⟩, -⟩ | ⟨-, -, -, e, -⟩ | ⟨-, b1, b2, -, -⟩ | ⟨hlt, -, -, hs, e, -⟩
                · rw [e2] at e; exact absurd e (by decide)
                · rw [e2] at e; exact absurd e (by decide)
                · rw [e2] at e; exfalso; have := (nIe (u := 2) (k := 128 + w) (by decide) (by omega)).mp e; omega
                · rw [e2] at e; exact absurd e (by decide)
                · exact ⟨b1, b2⟩
                · rw [e2] at e; exfalso; have := (nIe (u := 2) (k := U q) (by decide) (hU q hlt)).mp e; have := zsg_b hs (hU q hlt); omega
              exact (hM.1.2.2.2.2.2.2.1 hql hfg.1 hfg.2).trans (h.1.2.1.2.2.2.2.2.2.2 hql hfg.1).symm
            obtain ⟨a, ea, hEA⟩ := lit_c (g := g) (k := 2) (kk := 0) hQ h hlt hql e2 ⟨by decide, by decide⟩ x2 x3 x4 x5 x6 x7 x8 x9 x10 (Hb_L H x1) rfl (Or.inl ⟨rfl, rfl, hnb⟩)
            exact Rs_A ea x1 hEA
          · exact Rs_B (lit_f hn hS h (by rw [e2]; decide) (by have := h.2.2.2.2.1.2.2; omega)) (lit_m0 (d2 := fun u => u.1 1132 7) hn hS h (by have := h.2.2.2.2.1.2.2; omega)).1
        · by_cases e143 : tkKind U len q = 143
          · have ec : f52b n g s = f52_115 n g 143 s := by
              unfold f52b
              rw [hCk, e143]
              rfl
            have em : f194b n g2 t = yb0 (f195 n t) fun u31 => yb0 (f164 n u31) fun u32 => yb0 (f196 n (4 : Int32) (0 : Int32) u32) fun u33 => some u33 := by
              unfold f194b
              rw [hgo, yb1_s, if_neg (by decide), if_neg (fun e => e2 (k2.mp e)), nm, yb1_s, zone_0 e1, if_pos rfl, w45, yb1_s, zone_0 (by rw [e143]; decide), if_pos rfl, w46, yb1_s, zone_0 (by rw [e143]; decide), if_pos rfl, w47, yb1_s, zone_1 e143, if_neg (by decide)]
            rw [em] at H ⊢
            rw [ec]
            have hql := tk_lt h (by rw [e143]; decide)
            rcases Nat.lt_or_ge nd 400 with hlt | hge
            · obtain ⟨t2, x1, x2, x3, x4, x5, x6, x7, x8, x9, x10⟩ := (lit_m (c2 := 4) (d2 := 0) hn hS h hlt).2
              obtain ⟨a, ea, hEA⟩ := lit_c (g := g) (k := 143) (kk := 4) hQ h hlt hql e143 ⟨by decide, by decide⟩ x2 x3 x4 x5 x6 x7 x8 x9 x10 (Hb_L H x1) rfl (Or.inr ⟨rfl, rfl⟩)
              exact Rs_A ea x1 hEA
            · exact Rs_B (lit_f hn hS h (by rw [e143]; decide) (by have := h.2.2.2.2.1.2.2; omega)) (lit_m0 (d2 := fun u => 0) hn hS h (by have := h.2.2.2.2.1.2.2; omega)).2
          · by_cases e142 : tkKind U len q = 142
            · have ec : f52b n g s = yb0 (f58 n s) fun u1 => zrd 6 (u1.2.2 1004 5) fun a2 => f52_174 n g (nI 1) (nI 142) a2 u1 := by
                unfold f52b
                rw [hCk, e142]
                rfl
              have em : f194b n g2 t = yb0 (yb0 (f195 n t) (f164 n)) fun u4 => yb1 (f189 n (nI 1) u4) fun v2 u1 => yb0 (f196 n (nI 3) v2 u1) fun u3 => some u3 := by
                unfold f194b
                rw [hgo, yb1_s, if_neg (by decide), if_neg (fun e => e2 (k2.mp e)), nm, yb1_s, zone_0 e1, if_pos rfl, w45, yb1_s, zone_1 e142, if_neg (by decide)]
                unfold f194_74
                rw [w45, yb1_s, zone_1 e142, ← y00]
                rfl
              rw [em] at H ⊢
              rw [ec]
              exact word_f hQ h e142 (by omega) H
            · by_cases e144 : tkKind U len q = 144
              · have ec : f52b n g s = yb0 (f58 n s) fun u1 => zrd 6 (u1.2.2 1004 5) fun a2 => f52_174 n g (nI 8) (nI 144) a2 u1 := by
                  unfold f52b
                  rw [hCk, e144]
                  rfl
                have em : f194b n g2 t = yb0 (yb0 (f195 n t) (f164 n)) fun u4 => yb1 (f189 n (nI 8) u4) fun v2 u1 => yb0 (f196 n (nI 5) v2 u1) fun u3 => some u3 := by
                  unfold f194b
                  rw [hgo, yb1_s, if_neg (by decide), if_neg (fun e => e2 (k2.mp e)), nm, yb1_s, zone_0 e1, if_pos rfl, w45, yb1_s, zone_0 e142, if_pos rfl, w46, yb1_s, zone_1 e144, if_neg (by decide)]
                  unfold f194_74
                  rw [w45, yb1_s, zone_0 e142, ← y00]
                  rfl
                rw [em] at H ⊢
                rw [ec]
                exact word_f hQ h e144 (by omega) H
              · obtain ⟨s2, x1, g1⟩ := er_ref (n := n) (f := 2) hS h
                obtain ⟨t2, x2, g2'⟩ := er_cant (n := n) hS h
                refine Rs_B (f := zft U len q 2) (z := q) ⟨s2, ?_, g1⟩ ⟨t2, ?_, g2'⟩
                · unfold f52b
                  show (if s.1 1001 4 = (40 : Int32) then _ else _) = _
                  rw [hCk, if_neg e40, if_neg e45, if_neg e1, if_neg e2, if_neg e143, if_neg e142, if_neg e144, show f32 n 2 s = _ from x1]
                  rfl
                · unfold f194b
                  rw [hgo, yb1_s, if_neg (by decide), if_neg (fun e => e2 (k2.mp e)), nm, yb1_s, zone_0 e1, if_pos rfl, w45, yb1_s, zone_0 e142, if_pos rfl, w46, yb1_s, zone_0 e144, if_pos rfl, w47, yb1_s, zone_0 e143, if_pos rfl, s45, yb1_s, zone_0 e45, if_pos rfl, s40, yb1_s, zone_0 e40, if_pos rfl, x2]
                  rfl
theorem up_pair {g g2 : zσ → Option zσ} {D : Nat} (hQ : HQ n U len x y s0 t0 K tz G ub) (hg : ∀ t, bk (fun u => u) (LR np y tz) (g2 t) t) (hB : EB n U len x y s0 t0 K np tz G bl ub 1 D g g2) : EB n U len x y s0 t0 K np tz G bl ub 4 D (f49 n g) (f191 n g2) := pr49 hQ hg (pr50 hQ hg (pr51 hQ hg hB))
theorem factor (hQ : HQ n U len x y s0 t0 K tz G ub) : ∀ k : Nat, EB n U len x y s0 t0 K np tz G bl ub 1 (12 - k) (f52 n (k + 1)) (f194 n (k + 1)) := by
  obtain ⟨hn, hS, hub, -⟩ := id hQ
  have hy := hS.2.1
  intro k
  induction k with
  | zero => exact fa_body (g := f52 n 0) (g2 := f194 n 0) hQ (fun dp h1 h2 => by omega) (fun dp h1 h2 => by omega) (b194 hn hy 0)
  | succ k ih =>
    have h1 : ∀ dp, 12 - (k + 1) ≤ dp → dp < 12 → EB n U len x y s0 t0 K np tz G bl ub 1 (dp + 1) (f52 n (k + 1)) (f194 n (k + 1)) := fun dp a b => EB_mono (by omega) ih
    exact fa_body (g := f52 n (k + 1)) (g2 := f194 n (k + 1)) hQ h1 (fun dp a b => up_pair hQ (b194 hn hy _) (h1 dp a b)) (b194 hn hy _)
/-- whole expressions, as they are called -/
theorem whole_e (hQ : HQ n U len x y s0 t0 K tz G ub) : EB n U len x y s0 t0 K np tz G bl ub 4 0 (f49 n (f52 n 20)) (f191 n (f194 n 20)) := up_pair hQ (b194 hQ.1 hQ.2.1.2.1 _) (factor hQ 19)
end ZPT
