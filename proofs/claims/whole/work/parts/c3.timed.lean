/-! statements, both readers: schedules -/
section ZQB
variable {U : Nat → Nat} {len x y n K np bl ub q dp nd cd us es na nb q2 dp2 nd2 cd2 us2 r nb0 cd0 mE na2 nb2 : Nat} {s0 t0 tz s t s2 t2 s3 t3 sS tS : zσ} {G : Nat → Nat → Nat} {c m L E : Nat → Int32} {cs : Nat → Nat}
def hwD (G : Nat → Nat → Nat) (y : Nat) (tz : zσ) (c m : Nat → Int32) (mE : Nat) : Prop := (m 4 = nI 0 ∧ c 2 = -1 ∧ mE = 0) ∨ (m 4 = nI 1 ∧ c 2 = 145 ∧ m 5 = 1 ∧ mE = 1) ∨ (m 4 = nI 2 ∧ c 2 = 146 ∧ m 5 = 1 ∧ mE = 1) ∨ (m 4 = nI 3 ∧ c 2 = 147 ∧ m 5 = 1 ∧ mE = 1) ∨ (m 4 = nI 3 ∧ c 2 = 141 ∧ m 5 = 2 ∧ mE = 2) ∨ (m 4 = nI 4 ∧ uA G y 4 (tzMp tz y) (c 2) (m 3) ∧ mE = 0)
theorem lb101 (hn : 5000 ≤ n) (hy : y = 1134 ∨ y = 1170) {v : Int32} (t : zσ) : bk (fun u => u) (LR np y tz) (f188_101 n v y t) t := by
  unfold f188_101 f188_128 f188_150
  repeat' (first | (with_reducible exact b195 hy) | (with_reducible exact b164 hy) | (with_reducible exact b196 hy) | (with_reducible exact b182 hy) | (with_reducible exact b179 hy) | (with_reducible exact b172 hy) | (with_reducible exact b173 hy (by decide)) | (with_reducible exact b189 hn hy) | (with_reducible exact b190 hn hy _) | (with_reducible exact b178 hy) | (with_reducible exact bk_none) | (with_reducible exact bk_some LR_rf) | (with_reducible refine bk_ite (fun _ => ?_) (fun _ => ?_)) | (with_reducible refine bk_rdL ?_) | (with_reducible refine bk_zS LR_tr (LR_I ?_ ?_ ?_ ?_) ?_) | (with_reducible refine bk_zS LR_tr (LR_J ?_ ?_) ?_) | (with_reducible refine bk_zV ?_) | (with_reducible refine bk_y0 LR_tr ?_ (fun _ => ?_)) | (with_reducible refine bk_y1 LR_tr ?_ (fun _ _ => ?_)) | (with_reducible exact bk_pu pu_167 _) | (with_reducible exact bk_pu pu_177 _) | (with_reducible refine bk_pu (pu_170 hn ?_) _) | (with_reducible exact bk_pu (pu_175 hn) _) | (omega) | (decide))
theorem fc_78 {f z : Nat} (hn : 5000 ≤ n) (hS : S0 U len x y s0 t0) (hz : zin? (nI r) 200 = true) (h : FC len x s0 f z s) : fw (FC len x s0 f z) (yb0 (f60_78 n (nI r) s) (clF n r)) := by
  have hx := hS.1
  unfold f60_78
  simp only [as_0i, as_01, as_0s]
  refine fw_i0 (fc_k h (by decide)) (fw_i0 (fc_k h (by decide)) ?_)
  repeat' (first | (with_reducible exact fc_cl hn hS hz (by assumption)) | (with_reducible assumption) | (with_reducible refine fw_some ?_) | (with_reducible exact ⟨rfl, by assumption⟩) | (with_reducible refine fcs_r5 hS (by assumption) ?_) | (with_reducible refine fcs_r6 hS (by assumption) ?_) | (with_reducible refine fcs_r4 hS (by assumption) ?_) | (with_reducible refine fcs_32 (by assumption) ?_) | (with_reducible refine fcs_26 (by assumption) ?_) | (with_reducible refine fcs_37 (by assumption) ?_ ?_) | (with_reducible refine fcs_39 (by assumption) ?_ ?_) | (with_reducible refine fcs_41 (by assumption) ?_ ?_) | (with_reducible refine fcs_57 (by assumption) ?_) | (with_reducible refine fcs_58 hS (by assumption) ?_) | (with_reducible refine fcs_53 hS (by assumption) (fun _ _ => ?_)) | (with_reducible refine fcs_54 hx (by assumption) (fun _ _ => ?_)) | (with_reducible refine fcs_I (by assumption) hx ?_ ?_ ?_ (fun _ => ?_)) | (with_reducible refine fw_z ?_) | (with_reducible refine fw_i1 rfl ?_) | (with_reducible refine fw_i1 (by assumption) ?_) | (with_reducible refine fw_i0 (by assumption) ?_) | (with_reducible refine fw_i0 (fc_k (by assumption) ?_) ?_) | (with_reducible refine fcs_k (by assumption) ?_) | (refine fw_i0 (by decide) ?_) | (refine fw_i1 (by decide) ?_) | (omega) | (decide))
theorem fm_101 {f z : Nat} (h : FM len y t0 f z t) : fw (FM len y t0 f z) (f188_101 n (nI r) y t) := by
  unfold f188_101
  exact fms_167 h (fw_i1 rfl (fw_some h))
theorem timed_T {qs ub0 : Nat} (hQ : HQ n U len x y s0 t0 K tz G ub0) (hr : r < 200) (h : ST U len x y s0 t0 K np tz G bl r nb0 cd0 sS tS ub q dp nd cd us es nb c m L E mE cs s t) (hub : ub + 1 ≤ 4 * r + 4) (ho : c 3 = nI cd0 ∧ c 5 = -1 ∧ c 6 = nI bl ∧ m 1 = -1) (hqs : qs ≤ q) (hD : K = 1 → hwD G y tz c m mE) (H : Hb (fun u => u) K np y tz (f188_101 n (nI r) y t)) : Rs (FC len x s0) (FM len y t0) (ZB K y tz) (BO U len x y s0 t0 K np tz G bl r nb0 cd0 sS tS qs dp nb) (yb0 (f60_78 n (nI r) s) (clF n r)) (f188_101 n (nI r) y t) := by
  obtain ⟨hn, hS, -⟩ := id hQ
  have hx := hS.1
  have hy := hS.2.1
  have hE := h.1.1
  obtain ⟨hz, hnx, -⟩ := r4 (r := r) (i := 0) hr (by omega)
  have w32 : f170 n 32 t = some (zone (decide (tkKind U len q = 167)), t) := tm_word (w := 39) hn hE.2.1.2.1 (by decide) (by decide) (by decide +kernel)
  have w33 : f170 n 33 t = some (zone (decide (tkKind U len q = 168)), t) := tm_word (w := 40) hn hE.2.1.2.1 (by decide) (by decide) (by decide +kernel)
  have hgo := m_goes (n := n) hE.2.1.2.2
  have key : ∀ k kk : Nat, (k = 167 ∧ kk = 16 ∨ k = 168 ∧ kk = 17) → tkKind U len q = nI k → Hb (fun u => u) K np y tz (f188_150 n (nI r) y (nI kk) (nI r) (y + 15) t) → Rs (FC len x s0) (FM len y t0) (ZB K y tz) (BO U len x y s0 t0 K np tz G bl r nb0 cd0 sS tS qs dp nb) (yb0 (f60_111 n (nI r) s) (clF n r)) (f188_150 n (nI r) y (nI kk) (nI r) (y + 15) t) := by
    intro k kk hkk ek H
    unfold f60_111 f188_150 at *
    simp only [if_pos hz, hnx, as_0r, as_0z, as_00, as_01, as_0s] at H ⊢
    rw [ER_5 hS hE, grd (gck9 hx).2.1, ER_k hE, ek]
    refine Rs_zc (Rs_zm ?_)
    replace H := Hb_z H
    have h2 := ST_wM (j := 0) (v := nI kk) hS (by omega) (by omega) (by omega) (ST_wC (j := 0) (v := nI k) hS (by omega) h)
    refine st_n hn hS h2 H (fun u => ?_) (fun s3 t3 h3 hSC hq H3 => ?_)
    · repeat' (first | (with_reducible exact b195 hy) | (with_reducible exact b164 hy) | (with_reducible exact b196 hy) | (with_reducible exact b182 hy) | (with_reducible exact b179 hy) | (with_reducible exact b172 hy) | (with_reducible exact b173 hy (by decide)) | (with_reducible exact b189 hn hy) | (with_reducible exact b190 hn hy _) | (with_reducible exact b178 hy) | (with_reducible exact bk_none) | (with_reducible exact bk_some LR_rf) | (with_reducible refine bk_ite (fun _ => ?_) (fun _ => ?_)) | (with_reducible refine bk_rdL ?_) | (with_reducible refine bk_zS LR_tr (LR_I ?_ ?_ ?_ ?_) ?_) | (with_reducible refine bk_zS LR_tr (LR_J ?_ ?_) ?_) | (with_reducible refine bk_zV ?_) | (with_reducible refine bk_y0 LR_tr ?_ (fun _ => ?_)) | (with_reducible refine bk_y1 LR_tr ?_ (fun _ _ => ?_)) | (with_reducible exact bk_pu pu_167 _) | (with_reducible exact bk_pu pu_177 _) | (with_reducible refine bk_pu (pu_170 hn ?_) _) | (with_reducible exact bk_pu (pu_175 hn) _) | (omega) | (decide))
    rw [ER_5 hS h3.1.1, grd (gck9 hx).2.1]
    refine st_u (j := 1) (i := 2) (c0 := 8) (ub := ub) (HQ_ub (ub2 := ub) hQ (by omega)) (by omega) (by omega) h3 (by omega) (Or.inl ⟨rfl, rfl⟩) H3 (fun u => ?_) (fun f z u hF => fc_cl hn hS hz hF) (fun f z u hM => fw_some hM) (fun v a b hk1 h4 hR hv0 har H4 => ?_)
    · repeat' (first | (with_reducible exact b195 hy) | (with_reducible exact b164 hy) | (with_reducible exact b196 hy) | (with_reducible exact b182 hy) | (with_reducible exact b179 hy) | (with_reducible exact b172 hy) | (with_reducible exact b173 hy (by decide)) | (with_reducible exact b189 hn hy) | (with_reducible exact b190 hn hy _) | (with_reducible exact b178 hy) | (with_reducible exact bk_none) | (with_reducible exact bk_some LR_rf) | (with_reducible refine bk_ite (fun _ => ?_) (fun _ => ?_)) | (with_reducible refine bk_rdL ?_) | (with_reducible refine bk_zS LR_tr (LR_I ?_ ?_ ?_ ?_) ?_) | (with_reducible refine bk_zS LR_tr (LR_J ?_ ?_) ?_) | (with_reducible refine bk_zV ?_) | (with_reducible refine bk_y0 LR_tr ?_ (fun _ => ?_)) | (with_reducible refine bk_y1 LR_tr ?_ (fun _ _ => ?_)) | (with_reducible exact bk_pu pu_167 _) | (with_reducible exact bk_pu pu_177 _) | (with_reducible refine bk_pu (pu_170 hn ?_) _) | (with_reducible exact bk_pu (pu_175 hn) _) | (omega) | (decide))
    have e0 : ¬ nI k = 149 := by rcases hkk with ⟨rfl, -⟩ | ⟨rfl, -⟩ <;> decide
    rw [cl_n hS h4 (show ¬ nI k = 149 from e0)]
    refine Rs_A rfl rfl ⟨kk, ub + 1, _, nd, cd, us + 1, es, _, _, L, E, mE, cs, h4, ⟨?_, by omega, by omega, by omega, by omega, by omega⟩, ⟨?_, rfl, ho.1, ho.2.1, ho.2.2.1, ho.2.2.2⟩, fun hK _ => ?_⟩
    · have := tkNx_gt (U := U) (tk_lt h3.1.1 (by rw [hk1]; decide))
      omega
    · rcases hkk with ⟨rfl, rfl⟩ | ⟨rfl, rfl⟩ <;> rfl
    · refine Or.inr (Or.inr (Or.inr (Or.inr (Or.inr (Or.inr (Or.inr (Or.inr (Or.inr (Or.inl ⟨by omega, (hR hK).1.1 8 (by omega) rfl, hD hK⟩)))))))))
  unfold f60_78
  unfold f188_101 at H ⊢
  rw [hgo, yb1_s, if_neg n10, w32, yb1_s] at H ⊢
  rw [ER_k hE]
  by_cases e1 : tkKind U len q = 167
  · rw [zone_1 e1, if_neg n10] at H ⊢
    unfold f188_128 at H ⊢
    rw [w32, yb1_s, zone_1 e1, if_neg n10] at H ⊢
    rw [if_pos e1]
    exact key 167 16 (by omega) e1 H
  · rw [zone_0 e1, if_pos rfl, w33, yb1_s] at H ⊢
    rw [if_neg e1]
    by_cases e2 : tkKind U len q = 168
    · rw [zone_1 e2, if_neg n10] at H ⊢
      unfold f188_128 at H ⊢
      rw [w32, yb1_s, zone_0 e1, if_pos rfl] at H ⊢
      rw [if_pos e2]
      exact key 168 17 (by omega) e2 H
    · rw [zone_0 e2, if_pos rfl] at H ⊢
      rw [if_neg e2]
      obtain ⟨s2, x1, g1⟩ := er_ref (n := n) (f := 2) hS hE
      obtain ⟨t2, x2, g2⟩ := er_cant (n := n) hS hE
      refine Rs_B (f := zft U len q 2) (z := q) ?_ ⟨t2, by rw [x2]; rfl, g2⟩
      rw [show f32 n 2 s = _ from x1, yb1_s, as_0s]
      exact fc_cl hn hS hz g1
theorem timed_ok {hw : Nat} (hQ : HQ n U len x y s0 t0 K tz G ub) (hr : r < 200) (hc0 : cd0 = cd) (hhw : 1 ≤ hw ∧ hw ≤ 4) (h : ST U len x y s0 t0 K np tz G bl r nb0 cd0 sS tS (4 * r) q dp nd cd us es nb (c0F (nI (144 + hw)) cd bl) (m0F 0) L E 0 cs s t) (hk : tkKind U len q = nI (144 + hw)) (H : Hb (fun u => u) K np y tz (f188 n (nI r) (nI hw) t)) : Rs (FC len x s0) (FM len y t0) (ZB K y tz) (BO U len x y s0 t0 K np tz G bl r nb0 cd0 sS tS q dp nb) (yb0 (f60 n (nI r) s) (clF n r)) (f188 n (nI r) (nI hw) t) := by
  obtain ⟨hn, hS, hub, -⟩ := id hQ
  have hx := hS.1
  have hy := hS.2.1
  have hE := h.1.1
  obtain ⟨hz, hnx, h4m, h4a, h8z, h8n⟩ := r4 (r := r) (i := 0) hr (by omega)
  obtain ⟨-, -, -, h4a1, h8z1, h8n1⟩ := r4 (r := r) (i := 1) hr (by omega)
  have e80 : zin? ((4 : Int32) * nI r) 800 = true := by rw [h4m]; exact h8z
  have e81 : zin? ((4 : Int32) * nI r + 1) 800 = true := by
    have : nI (4 * r) + 1 = nI (4 * r + 1) := h4a1
    rw [h4m, this]; exact h8z1
  have n80 : nx ((4 : Int32) * nI r) = 4 * r + 0 := by rw [h4m]; exact h8n
  have n81 : nx ((4 : Int32) * nI r + 1) = 4 * r + 1 := by
    have : nI (4 * r) + 1 = nI (4 * r + 1) := h4a1
    rw [h4m, this]; exact h8n1
  have hQ0 := HQ_ub (ub2 := 4 * r) hQ (by omega)
  unfold f60 f60_68
  unfold f188 at H ⊢
  rw [ER_y hS hE, grd (gck12 hy)] at H ⊢
  simp only [if_pos hz, hnx, if_pos e80, if_pos e81, n80, n81] at H ⊢
  simp only [as_0r, as_0z, as_00, as_01, as_0i, as_0s]
  rw [ER_k hE, hk]
  refine Rs_zm (Rs_zc ?_)
  replace H := Hb_z H
  have h1 := ST_wM (j := 4) (v := nI hw) hS (by omega) (by omega) (by omega) h
  refine st_n hn hS h1 H (fun u => ?_) (fun s2 t2 h2 hSC hq H2 => ?_)
  · repeat' (first | (with_reducible exact lb101 hn hy _) | (with_reducible exact b195 hy) | (with_reducible exact b164 hy) | (with_reducible exact b196 hy) | (with_reducible exact b182 hy) | (with_reducible exact b179 hy) | (with_reducible exact b172 hy) | (with_reducible exact b173 hy (by decide)) | (with_reducible exact b189 hn hy) | (with_reducible exact b190 hn hy _) | (with_reducible exact b178 hy) | (with_reducible exact bk_none) | (with_reducible exact bk_some LR_rf) | (with_reducible refine bk_ite (fun _ => ?_) (fun _ => ?_)) | (with_reducible refine bk_rdL ?_) | (with_reducible refine bk_zS LR_tr (LR_I ?_ ?_ ?_ ?_) ?_) | (with_reducible refine bk_zS LR_tr (LR_J ?_ ?_) ?_) | (with_reducible refine bk_zV ?_) | (with_reducible refine bk_y0 LR_tr ?_ (fun _ => ?_)) | (with_reducible refine bk_y1 LR_tr ?_ (fun _ _ => ?_)) | (with_reducible exact bk_pu pu_167 _) | (with_reducible exact bk_pu pu_177 _) | (with_reducible refine bk_pu (pu_170 hn ?_) _) | (with_reducible exact bk_pu (pu_175 hn) _) | (omega) | (decide))
  by_cases h4 : hw = 4
  · subst h4
    rw [if_pos (show nI (144 + 4) = 148 from rfl), ER_5 hS h2.1.1, grd (gck9 hx).2.1]
    rw [if_pos (show nI 4 = 4 from rfl)] at H2 ⊢
    refine st_u (j := 2) (i := 3) (c0 := 4) hQ0 (by omega) (by omega) h2 (by omega) (Or.inl ⟨rfl, rfl⟩) H2 (fun u => lb101 hn hy _) (fun f z u hF => fc_78 hn hS hz hF) (fun f z u hM => fm_101 hM) (fun v a b hk1 h4 hR hv0 har H4 => ?_)
    have := tkNx_gt (U := U) (tk_lt h2.1.1 (by rw [hk1]; decide))
    exact timed_T hQ hr h4 (by omega) ⟨by rw [hc0]; rfl, rfl, rfl, rfl⟩ (by omega) (fun hK => Or.inr (Or.inr (Or.inr (Or.inr (Or.inr ⟨rfl, (hR hK).1.1 4 (by omega) rfl, rfl⟩))))) H4
  · have e148 : ¬ nI (144 + hw) = 148 := fun e => by have := (nIe (u := 144 + hw) (k := 148) (by omega) (by decide)).mp e; omega
    have e4 : ¬ nI hw = 4 := fun e => by have := (nIe (u := hw) (k := 4) (by omega) (by decide)).mp e; omega
    rw [if_neg e148]
    rw [if_neg e4] at H2 ⊢
    refine st_e (mE := 0) hQ0 (by omega) h2 H2 (fun u => ?_) (fun f z u hF => ?_) (fun f z u hM => ?_) (fun q3 nd3 cd3 us3 s3 t3 hq3 _ h3 hu3 har H3 => ?_)
    · repeat' (first | (with_reducible exact lb101 hn hy _) | (with_reducible exact b195 hy) | (with_reducible exact b164 hy) | (with_reducible exact b196 hy) | (with_reducible exact b182 hy) | (with_reducible exact b179 hy) | (with_reducible exact b172 hy) | (with_reducible exact b173 hy (by decide)) | (with_reducible exact b189 hn hy) | (with_reducible exact b190 hn hy _) | (with_reducible exact b178 hy) | (with_reducible exact bk_none) | (with_reducible exact bk_some LR_rf) | (with_reducible refine bk_ite (fun _ => ?_) (fun _ => ?_)) | (with_reducible refine bk_rdL ?_) | (with_reducible refine bk_zS LR_tr (LR_I ?_ ?_ ?_ ?_) ?_) | (with_reducible refine bk_zS LR_tr (LR_J ?_ ?_) ?_) | (with_reducible refine bk_zV ?_) | (with_reducible refine bk_y0 LR_tr ?_ (fun _ => ?_)) | (with_reducible refine bk_y1 LR_tr ?_ (fun _ _ => ?_)) | (with_reducible exact bk_pu pu_167 _) | (with_reducible exact bk_pu pu_177 _) | (with_reducible refine bk_pu (pu_170 hn ?_) _) | (with_reducible exact bk_pu (pu_175 hn) _) | (omega) | (decide))
    · refine fw_i (fun _ => ?_) (fun _ => ?_)
      · repeat' (first | (with_reducible exact fc_78 hn hS hz (by assumption)) | (with_reducible assumption) | (with_reducible refine fw_some ?_) | (with_reducible exact ⟨rfl, by assumption⟩) | (with_reducible refine fcs_r5 hS (by assumption) ?_) | (with_reducible refine fcs_r6 hS (by assumption) ?_) | (with_reducible refine fcs_r4 hS (by assumption) ?_) | (with_reducible refine fcs_32 (by assumption) ?_) | (with_reducible refine fcs_26 (by assumption) ?_) | (with_reducible refine fcs_37 (by assumption) ?_ ?_) | (with_reducible refine fcs_39 (by assumption) ?_ ?_) | (with_reducible refine fcs_41 (by assumption) ?_ ?_) | (with_reducible refine fcs_57 (by assumption) ?_) | (with_reducible refine fcs_58 hS (by assumption) ?_) | (with_reducible refine fcs_53 hS (by assumption) (fun _ _ => ?_)) | (with_reducible refine fcs_54 hx (by assumption) (fun _ _ => ?_)) | (with_reducible refine fcs_I (by assumption) hx ?_ ?_ ?_ (fun _ => ?_)) | (with_reducible refine fw_z ?_) | (with_reducible refine fw_i1 rfl ?_) | (with_reducible refine fw_i1 (by assumption) ?_) | (with_reducible refine fw_i0 (by assumption) ?_) | (with_reducible refine fw_i0 (fc_k (by assumption) ?_) ?_) | (with_reducible refine fcs_k (by assumption) ?_) | (refine fw_i0 (by decide) ?_) | (refine fw_i1 (by decide) ?_) | (omega) | (decide))
      · repeat' (first | (with_reducible exact fc_78 hn hS hz (by assumption)) | (with_reducible assumption) | (with_reducible refine fw_some ?_) | (with_reducible exact ⟨rfl, by assumption⟩) | (with_reducible refine fcs_r5 hS (by assumption) ?_) | (with_reducible refine fcs_r6 hS (by assumption) ?_) | (with_reducible refine fcs_r4 hS (by assumption) ?_) | (with_reducible refine fcs_32 (by assumption) ?_) | (with_reducible refine fcs_26 (by assumption) ?_) | (with_reducible refine fcs_37 (by assumption) ?_ ?_) | (with_reducible refine fcs_39 (by assumption) ?_ ?_) | (with_reducible refine fcs_41 (by assumption) ?_ ?_) | (with_reducible refine fcs_57 (by assumption) ?_) | (with_reducible refine fcs_58 hS (by assumption) ?_) | (with_reducible refine fcs_53 hS (by assumption) (fun _ _ => ?_)) | (with_reducible refine fcs_54 hx (by assumption) (fun _ _ => ?_)) | (with_reducible refine fcs_I (by assumption) hx ?_ ?_ ?_ (fun _ => ?_)) | (with_reducible refine fw_z ?_) | (with_reducible refine fw_i1 rfl ?_) | (with_reducible refine fw_i1 (by assumption) ?_) | (with_reducible refine fw_i0 (by assumption) ?_) | (with_reducible refine fw_i0 (fc_k (by assumption) ?_) ?_) | (with_reducible refine fcs_k (by assumption) ?_) | (refine fw_i0 (by decide) ?_) | (refine fw_i1 (by decide) ?_) | (omega) | (decide))
    · repeat' (first | (with_reducible exact fm_101 (by assumption)) | (with_reducible assumption) | (with_reducible refine fw_some ?_) | (with_reducible exact ⟨rfl, by assumption⟩) | (with_reducible refine fms_rd hS (by assumption) ?_) | (with_reducible refine fms_167 (by assumption) ?_) | (with_reducible refine fms_173 (by assumption) ?_) | (with_reducible refine fms_172 (by assumption) ?_) | (with_reducible refine fms_179 (by assumption) ?_) | (with_reducible refine fms_164 hn hS (by assumption) (fun _ _ => ?_)) | (with_reducible refine fms_196 (by assumption) ?_) | (with_reducible refine fms_195 hS (by assumption) ?_) | (with_reducible refine fms_182 hS (by assumption) (fun _ _ => ?_)) | (with_reducible refine fms_189 (by assumption) ?_) | (with_reducible refine fms_190 (by assumption) ?_) | (with_reducible refine fms_178 (by assumption) ?_) | (with_reducible refine fms_I (by assumption) hy ?_ (fun _ => ?_)) | (with_reducible refine fw_z ?_) | (with_reducible refine fw_i1 rfl ?_) | (with_reducible refine fw_i1 (by assumption) ?_) | (with_reducible refine fw_i0 (by assumption) ?_) | (refine fw_i0 (by decide) ?_) | (refine fw_i1 (by decide) ?_) | (omega) | (decide))
    refine Rs_zm ?_
    replace H3 := Hb_z H3
    have h4 := ST_wM (j := 5) (v := 1) hS (by omega) (by omega) (by omega) h3
    have hE4 := h4.1.1
    rw [m_goes (show (sI t3 (y + 20) r 1).1 1132 9 = 0 from hE4.2.1.2.2), yb1_s, if_neg n10] at H3 ⊢
    by_cases h3' : hw = 3
    · subst h3'
      rw [if_pos (show nI (144 + 3) = 147 from rfl)]
      rw [if_pos (show nI 3 = 3 from rfl)] at H3 ⊢
      have wu : f170 n 48 (sI t3 (y + 20) r 1) = some (zone (decide (tkKind U len q3 = 141)), sI t3 (y + 20) r 1) := tm_word (w := 13) hn hE4.2.1.2.1 (by decide) (by decide) (by decide +kernel)
      rw [wu, yb1_s] at H3 ⊢
      by_cases h141 : tkKind U len q3 = 141
      · rw [zone_1 h141, if_neg n10] at H3 ⊢
        have ec : f39 n 141 s3 = yb0 (f26 n s3) fun u => some (1, u) := by
          unfold f39
          rw [ER_k h3.1.1, if_pos h141]
        rw [ec]
        simp only [as_10, if_neg n10]
        refine st_n hn hS h4 H3 (fun u => ?_) (fun s5 t5 h5 hSC5 hq5 H5 => ?_)
        · repeat' (first | (with_reducible exact lb101 hn hy _) | (with_reducible exact b195 hy) | (with_reducible exact b164 hy) | (with_reducible exact b196 hy) | (with_reducible exact b182 hy) | (with_reducible exact b179 hy) | (with_reducible exact b172 hy) | (with_reducible exact b173 hy (by decide)) | (with_reducible exact b189 hn hy) | (with_reducible exact b190 hn hy _) | (with_reducible exact b178 hy) | (with_reducible exact bk_none) | (with_reducible exact bk_some LR_rf) | (with_reducible refine bk_ite (fun _ => ?_) (fun _ => ?_)) | (with_reducible refine bk_rdL ?_) | (with_reducible refine bk_zS LR_tr (LR_I ?_ ?_ ?_ ?_) ?_) | (with_reducible refine bk_zS LR_tr (LR_J ?_ ?_) ?_) | (with_reducible refine bk_zV ?_) | (with_reducible refine bk_y0 LR_tr ?_ (fun _ => ?_)) | (with_reducible refine bk_y1 LR_tr ?_ (fun _ _ => ?_)) | (with_reducible exact bk_pu pu_167 _) | (with_reducible exact bk_pu pu_177 _) | (with_reducible refine bk_pu (pu_170 hn ?_) _) | (with_reducible exact bk_pu (pu_175 hn) _) | (omega) | (decide))
        refine st_e (mE := 1) hQ0 (by omega) h5 H5 (fun u => ?_) (fun f z u hF => ?_) (fun f z u hM => ?_) (fun q6 nd6 cd6 us6 s6 t6 hq6 _ h6 hu6 har6 H6 => ?_)
        · repeat' (first | (with_reducible exact lb101 hn hy _) | (with_reducible exact b195 hy) | (with_reducible exact b164 hy) | (with_reducible exact b196 hy) | (with_reducible exact b182 hy) | (with_reducible exact b179 hy) | (with_reducible exact b172 hy) | (with_reducible exact b173 hy (by decide)) | (with_reducible exact b189 hn hy) | (with_reducible exact b190 hn hy _) | (with_reducible exact b178 hy) | (with_reducible exact bk_none) | (with_reducible exact bk_some LR_rf) | (with_reducible refine bk_ite (fun _ => ?_) (fun _ => ?_)) | (with_reducible refine bk_rdL ?_) | (with_reducible refine bk_zS LR_tr (LR_I ?_ ?_ ?_ ?_) ?_) | (with_reducible refine bk_zS LR_tr (LR_J ?_ ?_) ?_) | (with_reducible refine bk_zV ?_) | (with_reducible refine bk_y0 LR_tr ?_ (fun _ => ?_)) | (with_reducible refine bk_y1 LR_tr ?_ (fun _ _ => ?_)) | (with_reducible exact bk_pu pu_167 _) | (with_reducible exact bk_pu pu_177 _) | (with_reducible refine bk_pu (pu_170 hn ?_) _) | (with_reducible exact bk_pu (pu_175 hn) _) | (omega) | (decide))
        · repeat' (first | (with_reducible exact fc_78 hn hS hz (by assumption)) | (with_reducible assumption) | (with_reducible refine fw_some ?_) | (with_reducible exact ⟨rfl, by assumption⟩) | (with_reducible refine fcs_r5 hS (by assumption) ?_) | (with_reducible refine fcs_r6 hS (by assumption) ?_) | (with_reducible refine fcs_r4 hS (by assumption) ?_) | (with_reducible refine fcs_32 (by assumption) ?_) | (with_reducible refine fcs_26 (by assumption) ?_) | (with_reducible refine fcs_37 (by assumption) ?_ ?_) | (with_reducible refine fcs_39 (by assumption) ?_ ?_) | (with_reducible refine fcs_41 (by assumption) ?_ ?_) | (with_reducible refine fcs_57 (by assumption) ?_) | (with_reducible refine fcs_58 hS (by assumption) ?_) | (with_reducible refine fcs_53 hS (by assumption) (fun _ _ => ?_)) | (with_reducible refine fcs_54 hx (by assumption) (fun _ _ => ?_)) | (with_reducible refine fcs_I (by assumption) hx ?_ ?_ ?_ (fun _ => ?_)) | (with_reducible refine fw_z ?_) | (with_reducible refine fw_i1 rfl ?_) | (with_reducible refine fw_i1 (by assumption) ?_) | (with_reducible refine fw_i0 (by assumption) ?_) | (with_reducible refine fw_i0 (fc_k (by assumption) ?_) ?_) | (with_reducible refine fcs_k (by assumption) ?_) | (refine fw_i0 (by decide) ?_) | (refine fw_i1 (by decide) ?_) | (omega) | (decide))
        · repeat' (first | (with_reducible exact fm_101 (by assumption)) | (with_reducible assumption) | (with_reducible refine fw_some ?_) | (with_reducible exact ⟨rfl, by assumption⟩) | (with_reducible refine fms_rd hS (by assumption) ?_) | (with_reducible refine fms_167 (by assumption) ?_) | (with_reducible refine fms_173 (by assumption) ?_) | (with_reducible refine fms_172 (by assumption) ?_) | (with_reducible refine fms_179 (by assumption) ?_) | (with_reducible refine fms_164 hn hS (by assumption) (fun _ _ => ?_)) | (with_reducible refine fms_196 (by assumption) ?_) | (with_reducible refine fms_195 hS (by assumption) ?_) | (with_reducible refine fms_182 hS (by assumption) (fun _ _ => ?_)) | (with_reducible refine fms_189 (by assumption) ?_) | (with_reducible refine fms_190 (by assumption) ?_) | (with_reducible refine fms_178 (by assumption) ?_) | (with_reducible refine fms_I (by assumption) hy ?_ (fun _ => ?_)) | (with_reducible refine fw_z ?_) | (with_reducible refine fw_i1 rfl ?_) | (with_reducible refine fw_i1 (by assumption) ?_) | (with_reducible refine fw_i0 (by assumption) ?_) | (refine fw_i0 (by decide) ?_) | (refine fw_i1 (by decide) ?_) | (omega) | (decide))
        rw [ER_5 hS h6.1.1, grd (gck9 hx).2.1]
        refine Rs_zm (Rs_zc ?_)
        replace H6 := Hb_z H6
        have h7 := ST_wM (j := 5) (v := 2) hS (by omega) (by omega) (by omega) (ST_wC (j := 2) (v := 141) hS (by omega) h6)
        exact timed_T hQ hr h7 (by omega) ⟨by rw [hc0]; rfl, rfl, rfl, rfl⟩ (by omega) (fun hK => Or.inr (Or.inr (Or.inr (Or.inr (Or.inl ⟨rfl, rfl, rfl, rfl⟩))))) H6
      · rw [zone_0 h141, if_pos rfl] at H3 ⊢
        have ec : f39 n 141 s3 = some (0, s3) := by
          unfold f39
          rw [ER_k h3.1.1, if_neg h141]
        rw [ec, yb1_s, if_pos rfl, ER_5 hS h3.1.1, grd (gck9 hx).2.1]
        refine Rs_zc ?_
        have h7 := ST_wC (j := 2) (v := nI (144 + 3)) hS (by omega) h4
        exact timed_T hQ hr h7 (by omega) ⟨by rw [hc0]; rfl, rfl, rfl, rfl⟩ (by omega) (fun hK => Or.inr (Or.inr (Or.inr (Or.inl ⟨rfl, rfl, rfl, rfl⟩)))) H3
    · have e147 : ¬ nI (144 + hw) = 147 := fun e => by have := (nIe (u := 144 + hw) (k := 147) (by omega) (by decide)).mp e; omega
      have e3 : ¬ nI hw = 3 := fun e => by have := (nIe (u := hw) (k := 3) (by omega) (by decide)).mp e; omega
      rw [if_neg e147]
      rw [if_neg e3] at H3 ⊢
      rw [ER_5 hS h3.1.1, grd (gck9 hx).2.1]
      refine Rs_zc ?_
      have h7 := ST_wC (j := 2) (v := nI (144 + hw)) hS (by omega) h4
      refine timed_T hQ hr h7 (by omega) ⟨by rw [hc0]; rfl, rfl, rfl, rfl⟩ (by omega) (fun hK => ?_) H3
      have : hw = 1 ∨ hw = 2 := by omega
      rcases this with rfl | rfl
      · exact Or.inr (Or.inl ⟨rfl, rfl, rfl, rfl⟩)
      · exact Or.inr (Or.inr (Or.inl ⟨rfl, rfl, rfl, rfl⟩))
end ZQB
