/-! statements, both readers: a call, whole -/
section ZPY
variable {U : Nat → Nat} {len x y n K np bl ub q dp nd cd us es na nb q2 dp2 nd2 cd2 us2 r nb0 cd0 mE na2 nb2 : Nat} {s0 t0 tz s t s2 t2 s3 t3 sS tS : zσ} {G : Nat → Nat → Nat} {c m L E : Nat → Int32} {cs : Nat → Nat}
theorem fc_64 {f z : Nat} (hn : 5000 ≤ n) (hS : S0 U len x y s0 t0) (hz : zin? (nI r) 200 = true) (h : FC len x s0 f z s) : fw (FC len x s0 f z) (f64 n (nI r) s) := by
  unfold f64
  refine fw_z (fcs_57 h (fcs_37 h (by decide) (fw_i0 (fc_k h (by decide)) ?_)))
  unfold f64_41
  exact fc_64_46 (i := 0) hn hS hz (Or.inl rfl) (by omega) h
theorem fm_199 {f z : Nat} (hn : 5000 ≤ n) (hS : S0 U len x y s0 t0) (hz : zin? (nI r) 200 = true) (h : FM len y t0 f z t) : fw (FM len y t0 f z) (f199 n (nI r) t) := by
  have hy := hS.2.1
  obtain ⟨n, rfl⟩ : ∃ n0, n = n0 + 1 := ⟨n - 1, by omega⟩
  unfold f199 f199_48 f199_49
  repeat' (first | (with_reducible exact lm199 hn hS hz (by assumption)) | (with_reducible assumption) | (with_reducible refine fw_some ?_) | (with_reducible exact ⟨rfl, by assumption⟩) | (with_reducible refine fms_rd hS (by assumption) ?_) | (with_reducible refine fms_167 (by assumption) ?_) | (with_reducible refine fms_173 (by assumption) ?_) | (with_reducible refine fms_172 (by assumption) ?_) | (with_reducible refine fms_179 (by assumption) ?_) | (with_reducible refine fms_164 hn hS (by assumption) (fun _ _ => ?_)) | (with_reducible refine fms_196 (by assumption) ?_) | (with_reducible refine fms_195 hS (by assumption) ?_) | (with_reducible refine fms_182 hS (by assumption) (fun _ _ => ?_)) | (with_reducible refine fms_189 (by assumption) ?_) | (with_reducible refine fms_190 (by assumption) ?_) | (with_reducible refine fms_178 (by assumption) ?_) | (with_reducible refine fms_I (by assumption) hy ?_ (fun _ => ?_)) | (with_reducible refine fw_z ?_) | (with_reducible refine fw_i1 rfl ?_) | (with_reducible refine fw_i1 (by assumption) ?_) | (with_reducible refine fw_i0 (by assumption) ?_) | (refine fw_i0 (by decide) ?_) | (refine fw_i1 (by decide) ?_) | (omega) | (decide))
theorem pcall_ok (hQ : HQ n U len x y s0 t0 K tz G ub) (hr : r < 200) (h1 : ub + 1 ≤ 900) (h : ST U len x y s0 t0 K np tz G bl r nb0 cd0 sS tS ub q dp nd cd us es nb c m L E 0 cs s t) (H : Hb (fun u => u) K np y tz (f199 n (nI r) t)) : Rs (FC len x s0) (FM len y t0) (ZB K y tz) (fun a b => ∃ v3, CO U len x y s0 t0 K np tz G bl r nb0 cd0 sS tS (ub + 1) q dp nb c (uf m 3 (nI us)) L v3 a b ∧ (K = 1 → uA G y 7 (tzMp tz y) v3 (nI us))) (f64 n (nI r) s) (f199 n (nI r) t) := by
  obtain ⟨hn, hS, hub, -, -, hK01, h67⟩ := id hQ
  have hx := hS.1
  have hy := hS.2.1
  have hE := h.1.1
  obtain ⟨hz, hnx, -⟩ := r4 (r := r) (i := 0) hr (by omega)
  have hq5 : s.1 1001 5 = nI q := hE.1.2.1.2.2.2.1
  have hql := (ER_q hE).1
  have hl4 := (ER_q hE).2.2
  have u3 := hE.2.2.2.2.2.2.1.2
  have n3 := hE.2.2.2.2.1.2.2
  have em : f199 n (nI r) t = yb1 (f189 n (7 : Int32) t) fun v3 u2 => zlet (sI u2 (y + 18) r v3) fun u4 => yb0 (f179 n (40 : Int32) u4) fun u5 => yb1 (f167 n u5) fun v7 u6 => if v7 = (0 : Int32) then f199_51 n n (nI r) y v3 0 0 u6 else yb1 (f177 n (41 : Int32) u6) fun v9 u8 => if v9 = (0 : Int32) then f199_51 n n (nI r) y v3 0 1 u8 else f199_51 n n (nI r) y v3 0 0 u8 := by
    unfold f199
    rw [ER_y hS hE, grd (gck12 hy)]
    simp only [if_pos hz, hnx]
    rfl
  have ec : f64 n (nI r) s = yb1 (f57 n (7 : Int32) s) fun v3 u2 => yb0 (f37 n (40 : Int32) u2) fun u4 => if (u4.1 1001 4) = (41 : Int32) then f64_46 n n (nI r) (nI q) v3 0 0 0 u4 else f64_46 n n (nI r) (nI q) v3 0 1 0 u4 := by
    unfold f64
    rw [hq5]
    rfl
  rw [em] at H ⊢
  rw [ec]
  refine st11 H (ER_y hS hE) (b189 hn hy) (fun v u => ?_) (st_use (c0 := 7) hQ h1 h (by omega) (Or.inl ⟨rfl, rfl⟩)) (fun f z v a hF => ?_) (fun f z w b hM => ?_) (fun v s1 w t1 hA H2 => ?_)
  · repeat' (first | (with_reducible exact lb199 hn hy _ _ _ _ _) | (with_reducible exact b195 hy) | (with_reducible exact b164 hy) | (with_reducible exact b196 hy) | (with_reducible exact b182 hy) | (with_reducible exact b179 hy) | (with_reducible exact b172 hy) | (with_reducible exact b173 hy (by decide)) | (with_reducible exact b189 hn hy) | (with_reducible exact b190 hn hy _) | (with_reducible exact b178 hy) | (with_reducible exact bk_none) | (with_reducible exact bk_some LR_rf) | (with_reducible refine bk_ite (fun _ => ?_) (fun _ => ?_)) | (with_reducible refine bk_rdL ?_) | (with_reducible refine bk_zS LR_tr (LR_I ?_ ?_ ?_ ?_) ?_) | (with_reducible refine bk_zS LR_tr (LR_J ?_ ?_) ?_) | (with_reducible refine bk_zV ?_) | (with_reducible refine bk_y0 LR_tr ?_ (fun _ => ?_)) | (with_reducible refine bk_y1 LR_tr ?_ (fun _ _ => ?_)) | (with_reducible exact bk_pu pu_167 _) | (with_reducible exact bk_pu pu_177 _) | (with_reducible refine bk_pu (pu_170 hn ?_) _) | (with_reducible exact bk_pu (pu_175 hn) _) | (omega) | (decide))
  · obtain ⟨e, hF⟩ := hF
    have e : v = -1 := e
    subst e
    refine fcs_37 hF (by decide) (fw_i0 (fc_k hF (by decide)) ?_)
    exact fc_64_46 (i := 0) hn hS hz (Or.inl rfl) (by omega) hF
  · have hM2 : FM len y t0 f z b := hM
    obtain ⟨n, rfl⟩ : ∃ n0, n = n0 + 1 := ⟨n - 1, by omega⟩
    repeat' (first | (with_reducible exact lm199 hn hS hz (by assumption)) | (with_reducible assumption) | (with_reducible refine fw_some ?_) | (with_reducible exact ⟨rfl, by assumption⟩) | (with_reducible refine fms_rd hS (by assumption) ?_) | (with_reducible refine fms_167 (by assumption) ?_) | (with_reducible refine fms_173 (by assumption) ?_) | (with_reducible refine fms_172 (by assumption) ?_) | (with_reducible refine fms_179 (by assumption) ?_) | (with_reducible refine fms_164 hn hS (by assumption) (fun _ _ => ?_)) | (with_reducible refine fms_196 (by assumption) ?_) | (with_reducible refine fms_195 hS (by assumption) ?_) | (with_reducible refine fms_182 hS (by assumption) (fun _ _ => ?_)) | (with_reducible refine fms_189 (by assumption) ?_) | (with_reducible refine fms_190 (by assumption) ?_) | (with_reducible refine fms_178 (by assumption) ?_) | (with_reducible refine fms_I (by assumption) hy ?_ (fun _ => ?_)) | (with_reducible refine fw_z ?_) | (with_reducible refine fw_i1 rfl ?_) | (with_reducible refine fw_i1 (by assumption) ?_) | (with_reducible refine fw_i0 (by assumption) ?_) | (refine fw_i0 (by decide) ?_) | (refine fw_i1 (by decide) ?_) | (omega) | (decide))
  obtain ⟨rfl, hk1, hA1, hSC, hv0, hR⟩ := hA
  replace H2 := Hb_z H2
  refine Rs_zm ?_
  have hA2 := ST_wM (j := 3) (v := nI us) hS (by omega) (by omega) (by omega) hA1
  have hql2 := tk_lt hE (by rw [hk1]; decide)
  have hgt := tkNx_gt (U := U) hql2
  have hp : K = 1 → ∃ p, p < G 6 7 ∧ v = nI p ∧ (zso tz y us).2 = nI p ∧ tz.1 (y + 30) us = nI q := fun hK => by
    obtain ⟨⟨g1, -⟩, g2, g3⟩ := hR hK
    obtain ⟨u, p, b1, b2, b3, b4, b5⟩ := g1 7 (by omega) rfl
    have : us = u := (nI_eq (by omega) (by omega)).mp b3
    subst this
    rw [(tzM_33 g3).1] at b4
    exact ⟨p, b2, b5, b4, g2⟩
  have hv3 : v = -1 ∨ zin? v 6 = true := by
    by_cases k0 : K = 0
    · rw [show v = 0 from hv0 k0]; exact Or.inr (by decide)
    · obtain ⟨p, p1, p2, -⟩ := hp (by omega)
      have := h67 (by omega)
      rw [p2]; exact Or.inr (zin_nI (by omega) (by decide))
  refine st00 H2 (ER_y hS hA2.1.1) (b179 hy) (fun u => ?_) (st_want (k := 40) hn hS (by decide) (by decide) hA2) (fun f z a hF => ?_) (fun f z b hM => ?_) (fun s2 t2 hA3 H3 => ?_)
  · repeat' (first | (with_reducible exact lb199 hn hy _ _ _ _ _) | (with_reducible exact b195 hy) | (with_reducible exact b164 hy) | (with_reducible exact b196 hy) | (with_reducible exact b182 hy) | (with_reducible exact b179 hy) | (with_reducible exact b172 hy) | (with_reducible exact b173 hy (by decide)) | (with_reducible exact b189 hn hy) | (with_reducible exact b190 hn hy _) | (with_reducible exact b178 hy) | (with_reducible exact bk_none) | (with_reducible exact bk_some LR_rf) | (with_reducible refine bk_ite (fun _ => ?_) (fun _ => ?_)) | (with_reducible refine bk_rdL ?_) | (with_reducible refine bk_zS LR_tr (LR_I ?_ ?_ ?_ ?_) ?_) | (with_reducible refine bk_zS LR_tr (LR_J ?_ ?_) ?_) | (with_reducible refine bk_zV ?_) | (with_reducible refine bk_y0 LR_tr ?_ (fun _ => ?_)) | (with_reducible refine bk_y1 LR_tr ?_ (fun _ _ => ?_)) | (with_reducible exact bk_pu pu_167 _) | (with_reducible exact bk_pu pu_177 _) | (with_reducible refine bk_pu (pu_170 hn ?_) _) | (with_reducible exact bk_pu (pu_175 hn) _) | (omega) | (decide))
  · refine fw_i0 (fc_k hF (by decide)) ?_
    exact fc_64_46 (i := 0) hn hS hz hv3 (by omega) hF
  · obtain ⟨n, rfl⟩ : ∃ n0, n = n0 + 1 := ⟨n - 1, by omega⟩
    repeat' (first | (with_reducible exact lm199 hn hS hz (by assumption)) | (with_reducible assumption) | (with_reducible refine fw_some ?_) | (with_reducible exact ⟨rfl, by assumption⟩) | (with_reducible refine fms_rd hS (by assumption) ?_) | (with_reducible refine fms_167 (by assumption) ?_) | (with_reducible refine fms_173 (by assumption) ?_) | (with_reducible refine fms_172 (by assumption) ?_) | (with_reducible refine fms_179 (by assumption) ?_) | (with_reducible refine fms_164 hn hS (by assumption) (fun _ _ => ?_)) | (with_reducible refine fms_196 (by assumption) ?_) | (with_reducible refine fms_195 hS (by assumption) ?_) | (with_reducible refine fms_182 hS (by assumption) (fun _ _ => ?_)) | (with_reducible refine fms_189 (by assumption) ?_) | (with_reducible refine fms_190 (by assumption) ?_) | (with_reducible refine fms_178 (by assumption) ?_) | (with_reducible refine fms_I (by assumption) hy ?_ (fun _ => ?_)) | (with_reducible refine fw_z ?_) | (with_reducible refine fw_i1 rfl ?_) | (with_reducible refine fw_i1 (by assumption) ?_) | (with_reducible refine fw_i0 (by assumption) ?_) | (refine fw_i0 (by decide) ?_) | (refine fw_i1 (by decide) ?_) | (omega) | (decide))
  obtain ⟨⟨hql3, -⟩, hA4, hSC2⟩ := hA3
  have hgt2 := tkNx_gt (U := U) hql3
  have hE4 := hA4.1.1
  have g41 : f177 n 41 t2 = some (zone (decide (tkKind U len (tkNx U len (tkNx U len q)) = 41)), t2) := tm_sign (c := 41) hE4.2.1.2.1 (by decide) (by decide)
  have e35 : t2.1 (y + 35) us = -1 := by
    rw [hSC2.2.2.2.1 us (by omega), hIo (by omega)]
    exact hSC.2.2.2.2 us (by omega) (by omega)
  have hu4 : us < 1400 := by omega
  have hfin : ∀ mo : Int32, (mo = 0 ∨ mo = 1) → Hb (fun u => u) K np y tz (f199_51 n n (nI r) y (nI us) 0 mo t2) → Rs (FC len x s0) (FM len y t0) (ZB K y tz) (fun a b => ∃ v3, CO U len x y s0 t0 K np tz G bl r nb0 cd0 sS tS (ub + 1) q dp nb c (uf m 3 (nI us)) L v3 a b ∧ (K = 1 → uA G y 7 (tzMp tz y) v3 (nI us))) (f64_46 n n (nI r) (nI q) v 0 mo 0 s2) (f199_51 n n (nI r) y (nI us) 0 mo t2) := fun mo hmo H4 => by
    refine Rs_w (call_L (uu := us) (zz := q) (v3 := v) (HQ_ub hQ h1) hr hu4 (by omega) hv0 hp 3 0 _ nd cd (us + 1) es n n E cs s2 t2 mo rfl (by omega) (by omega) hmo hA4 (by omega) e35 (fun u a b => by omega) H4) (fun a b _ _ hab => ?_)
    obtain ⟨q3, nd3, cd3, us3, es3, i3, E3, cs3, b1, b2⟩ := hab
    exact ⟨v, ⟨q3, nd3, cd3, us3, es3, i3, E3, cs3, by omega, b2⟩, fun hK => (hR hK).1.1 7 (by omega) rfl⟩
  rw [m_goes hE4.2.1.2.2, yb1_s, if_neg n10, g41, yb1_s] at H3 ⊢
  rw [ER_k hE4]
  by_cases hk : tkKind U len (tkNx U len (tkNx U len q)) = 41
  · rw [zone_1 hk, if_neg n10] at H3 ⊢
    rw [if_pos hk]
    exact hfin 0 (Or.inl rfl) H3
  · rw [zone_0 hk, if_pos rfl] at H3 ⊢
    rw [if_neg hk]
    exact hfin 1 (Or.inr rfl) H3
end ZPY
