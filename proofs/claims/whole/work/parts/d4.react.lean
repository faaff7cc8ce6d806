/-! blocks, both readers: one reaction -/
section ZQM
variable {U : Nat → Nat} {len x y n K np bl ub q dp nd cd us es na nb q2 dp2 nd2 cd2 us2 r nb0 cd0 mE na2 nb2 na0 er : Nat} {s0 t0 tz s t s2 t2 s3 t3 sS tS : zσ} {G G2 G3 : Nat → Nat → Nat} {gc : Int32 → Int32 → zσ → Option (Int32 × zσ)} {gm : zσ → Option (Int32 × zσ)} {l : List Nat} {kd w0 : Int32} {P : (Nat → Nat → Nat) → Prop}
theorem BI_C (hS : S0 U len x y s0 t0) (h : BI U len x y s0 t0 K np tz G sS tS na0 bl cd0 dp kd w0 P er l q nd cd us es na nb s t) (o : EC x y K cd us us s t s2 t2) (hE : ER U len x y s0 t0 K np tz G bl (4 * na) q2 dp nd cd us s2 t2) (hq : q ≤ q2) : BI U len x y s0 t0 K np tz G sS tS na0 bl cd0 dp kd w0 P er l q2 nd cd us es na nb s2 t2 := by
  have hx := hS.1
  have hy := hS.2.1
  obtain ⟨h1, ⟨a1, a2, a3⟩, ⟨h3, h4⟩, ⟨h5, h6⟩, h7, h8⟩ := h
  have oc := SC_E o
  have hLC : LC x K na nb cd s s2 := LC_C hx oc
  have hLM : LM y na nb t t2 := LM_C hy oc
  refine ⟨SR_C hS h1 oc hE (EC_28 o) (by omega) (Nat.le_refl _) (Nat.le_refl _), ⟨a1, a2, a3⟩, ⟨LC_tr h3 hLC a1 (by omega) a3, LM_tr h4 hLM a1 (by omega)⟩, ⟨?_, ?_⟩, CH_fr h7 (Nat.le_refl _) (hLC.2.2.2.2.2.2.1 _ _ (by omega) (by omega) (by omega)) (fun r hr => ⟨hLC.2.2.2.2.2.2.1 _ _ (by omega) (by omega) hr, hLC.2.2.2.2.2.2.1 _ _ (by omega) (by omega) hr⟩) (fun w hw => hLM.2.2.2.2.2.2.2.2 _ (by omega)), fun hK hm Gc hCP hdH => ?_⟩
  · rw [hLC.2.2.2.2.2.2.1 _ _ (by omega) (by omega) (by omega)]; exact h5
  · rw [hLC.2.2.2.2.2.2.1 _ _ (by omega) (by omega) (by omega)]; exact h6
  · obtain ⟨G', g1, g2, g3, g4, g5⟩ := h8 hK (hLC.2.2.2.2.1 hm) Gc hCP hdH
    exact ⟨G', g1, g2, g3, PD_mv g4 (Fut_L hK GX_rf hLC hLM (Nat.le_refl _) (Nat.le_refl _) (Nat.le_refl _)), g5⟩
theorem BI_w {v v' : Int32} {w : Nat} (hS : S0 U len x y s0 t0) (hw : w < 20) (h : BI U len x y s0 t0 K np tz G sS tS na0 bl cd0 dp kd w0 P er l q nd cd us es na nb s t) : LM y na0 bl tS (sI t (y + 14) (20 * bl + w) v) ∧ (∀ u, u < 20 → u ≠ w → (sI t (y + 14) (20 * bl + w) v).1 (y + 14) (20 * bl + u) = t.1 (y + 14) (20 * bl + u)) := by
  have hy := hS.2.1
  exact ⟨LM_tr h.2.2.1.2 (LM_w (na := na0) (nb := bl) hy (by omega)) (by omega) (by omega), fun u _ e => hIx (by omega)⟩
theorem rea_G (hbl : bl < nb) (h4 : G 4 bl = dp) (h : dH G na0 (bl + 1) bl) : dH (Gbl G nb 4 bl (dp + 1) (G 5 bl) (G 7 bl)) na (nb + 1) nb := by
  obtain ⟨e2, e3, e4, e5, e7⟩ := Gbl_b (G := G) (b := nb) (k := 4) (w := bl) (l := dp + 1) (rt := G 5 bl) (st := G 7 bl)
  obtain ⟨-, -, -, -, k1, k2, k3, k4⟩ := h
  unfold dH
  rw [e7, e3, e2, e4, e5]
  refine ⟨fun e => by omega, fun e => by omega, fun e => by omega, fun _ => ⟨by omega, ?_, ?_, ?_⟩, by omega, ?_, ?_, ?_⟩
  · rw [Gbl_o (by omega), h4]
  · rw [Gbl_o (by omega)]
  · rw [Gbl_o (by omega)]
  · rw [Gbl_o (by omega)]; exact k2
  · rw [Gbl_o (by omega)]; exact k3
  · rw [Gbl_o (by omega)]; omega
theorem Fut_wR {a0 a1 b0 b1 c1 er eb on k : Nat} {v1 v2 v3 v4 : Int32} (hb : bl < b0) (hk : k < 20 * bl + 20) (ho : eb = on ∨ on < b0 ∨ b1 ≤ on) : Fut x y a0 a1 b0 b1 c1 er eb G s t G (sI (sI (sI s (x + 35) on v1) (x + 34) on v2) (x + 33) bl v3) (sI t (y + 14) k v4) := by
  have gC : ∀ a i, ¬ ((a = x + 34 ∨ a = x + 35) ∧ i = on) → ¬ (a = x + 33 ∧ i = bl) → (sI (sI (sI s (x + 35) on v1) (x + 34) on v2) (x + 33) bl v3).1 a i = s.1 a i := fun a i e1 e2 => by
    rw [hIx (by omega), hIx (by omega), hIx (by omega)]
  exact ⟨GX_rf, fun r' p1 p2 => ⟨⟨fun j a b => gC _ _ (by omega) (by omega), fun j a b c d => hIx (by omega), fun k hk => ⟨hIx (by omega), hIx (by omega)⟩⟩, fun _ => ⟨gC _ _ (by omega) (by omega), hIx (by omega)⟩⟩, fun b p1 p2 => ⟨⟨fun j a => gC _ _ (by omega) (by omega), hIx (by omega), fun w hw => hIx (by omega)⟩, fun _ => ⟨gC _ _ (by omega) (by omega), gC _ _ (by omega) (by omega)⟩⟩, fun p hp => ⟨gC _ _ (by omega) (by omega), gC _ _ (by omega) (by omega)⟩⟩
theorem lb56 (hn : 5000 ≤ n) (hy : y = 1134 ∨ y = 1170) (hg : ∀ t, bk (fun u => u.2) (LR np y tz) (gm t) t) {v w : Int32} (t : zσ) : bk (fun u => u) (LR np y tz) (f183_56 n gm v w t) t := by
  unfold f183_56
  repeat' (first | (with_reducible exact hg _) | (with_reducible refine b173 hy ?_) | (with_reducible exact b195 hy) | (with_reducible exact b164 hy) | (with_reducible exact b196 hy) | (with_reducible exact b182 hy) | (with_reducible exact b179 hy) | (with_reducible exact b172 hy) | (with_reducible exact b173 hy (by decide)) | (with_reducible exact b189 hn hy) | (with_reducible exact b190 hn hy _) | (with_reducible exact b178 hy) | (with_reducible exact bk_none) | (with_reducible exact bk_some LR_rf) | (with_reducible refine bk_ite (fun _ => ?_) (fun _ => ?_)) | (with_reducible refine bk_rdL ?_) | (with_reducible refine bk_zS LR_tr (LR_I ?_ ?_ ?_ ?_) ?_) | (with_reducible refine bk_zS LR_tr (LR_J ?_ ?_) ?_) | (with_reducible refine bk_zV ?_) | (with_reducible refine bk_y0 LR_tr ?_ (fun _ => ?_)) | (with_reducible refine bk_y1 LR_tr ?_ (fun _ _ => ?_)) | (with_reducible exact bk_pu pu_167 _) | (with_reducible exact bk_pu pu_177 _) | (with_reducible refine bk_pu (pu_170 hn ?_) _) | (with_reducible exact bk_pu (pu_175 hn) _) | (omega) | (decide))
theorem rea_c {w : Nat} (hQ : HQ n U len x y s0 t0 K tz G ub) (hG : HG K y tz G) (hB : BPP n U len x y s0 t0 K np tz dp gc gm) (hw : w < 20) (h4 : K = 1 → G 4 bl = dp) (h : BI U len x y s0 t0 K np tz G sS tS na0 bl cd0 dp kd w0 (fun _ => True) na l q nd cd us es na nb s t) (hql : q < len) (hk0 : ¬ tkKind U len q = 0) (hL : 6 * nb + 4 ≤ tkNx U len q + dp) (H : Hb (fun u => u) K np y tz (f183_56 n gm (nI bl) (nI w) t)) : Rs (FC len x s0) (FM len y t0) (ZB K y tz) (fun a b => ∃ l2 q2 nd2 cd2 us2 es2 na2 nb2, q + 1 ≤ q2 ∧ BI U len x y s0 t0 K np tz G sS tS na0 bl cd0 dp kd w0 (fun _ => True) na2 l2 q2 nd2 cd2 us2 es2 na2 nb2 a b ∧ (a.1 (x + 32) bl = s.1 (x + 32) bl ∧ b.1 (y + 13) bl = t.1 (y + 13) bl)) (f43_79 n gc (nI bl) (nI w) s) (f183_56 n gm (nI bl) (nI w) t) := by
  obtain ⟨hn, hS, -⟩ := id hQ
  obtain ⟨hB1, hB2, hB3, hB4⟩ := id hB
  have hx := hS.1
  have hy := hS.2.1
  obtain ⟨hR, ⟨a1, a2, a3⟩, -, -, hCH, -⟩ := id h
  have hE := hR.1
  have hb7 : nb < 700 := by
    have := hR.2.2.1.2.2
    have := (ER_q hE)
    have := hE.2.2.2.1.2.2
    omega
  have hbl7 : bl < 700 := by omega
  have hgt := tkNx_gt (U := U) hql
  have e20 : (20 : Int32) * nI bl + nI w = nI (20 * bl + w) := by rw [nLmul]; exact naddN _ _
  have hz40 : zin? ((20 : Int32) * nI bl + nI w) 40000 = true := by rw [e20]; exact zin_nI (by omega) (by decide)
  have hn40 : nx ((20 : Int32) * nI bl + nI w) = 20 * bl + w := by rw [e20]; exact nx_nI (by omega)
  unfold f183_56 at H ⊢
  unfold f43_79
  rw [ER_y hS hE, grd (gck12 hy)] at H ⊢
  rw [(BC_rf hS hE.1.1).2.2.1, grd (gck9 hx).2.2]
  simp only [if_pos hz40, hn40] at H ⊢
  by_cases h1 : t.1 (y + 14) (20 * bl + w) = -1
  · rw [(c_44p hn hbl7 hCH hw).1 h1, yb1_s, if_pos rfl]
    rw [if_pos h1] at H ⊢
    refine er_n hn hS hE H (fun u => ?_) (fun s2 t2 hab hq2 H2 => ?_)
    · repeat' (first | (with_reducible exact hB4 _) | (with_reducible exact b195 hy) | (with_reducible exact b164 hy) | (with_reducible exact b196 hy) | (with_reducible exact b182 hy) | (with_reducible exact b179 hy) | (with_reducible exact b172 hy) | (with_reducible exact b173 hy (by decide)) | (with_reducible exact b189 hn hy) | (with_reducible exact b190 hn hy _) | (with_reducible exact b178 hy) | (with_reducible exact bk_none) | (with_reducible exact bk_some LR_rf) | (with_reducible refine bk_ite (fun _ => ?_) (fun _ => ?_)) | (with_reducible refine bk_rdL ?_) | (with_reducible refine bk_zS LR_tr (LR_I ?_ ?_ ?_ ?_) ?_) | (with_reducible refine bk_zS LR_tr (LR_J ?_ ?_) ?_) | (with_reducible refine bk_zV ?_) | (with_reducible refine bk_y0 LR_tr ?_ (fun _ => ?_)) | (with_reducible refine bk_y1 LR_tr ?_ (fun _ _ => ?_)) | (with_reducible exact bk_pu pu_167 _) | (with_reducible exact bk_pu pu_177 _) | (with_reducible refine bk_pu (pu_170 hn ?_) _) | (with_reducible exact bk_pu (pu_175 hn) _) | (omega) | (decide))
    have hb2 := BI_C hS h hab.1 hab.2 hq2
    have hE2 := hab.2
    have hSC2 := SC_E hab.1
    have hLC2 : LC x K na nb cd s s2 := LC_C hx hSC2
    have hLM2 : LM y na nb t t2 := LM_C hy hSC2
    rw [ER_y hS hE2, grd (gck12 hy)] at H2 ⊢
    refine Rs_zm ?_
    replace H2 := Hb_z H2
    have hR3 := SR_wM (a := y + 14) (k := 20 * bl + w) (v := 0) hS (by omega) hb2.1
    have gb := Gbl_b (G := G) (b := nb) (k := 4) (w := bl) (l := dp + 1) (rt := G 5 bl) (st := G 7 bl)
    have go : ∀ (f i : Nat), f ≠ 2 → f ≠ 3 → f ≠ 4 → f ≠ 5 → f ≠ 7 → Gbl G nb 4 bl (dp + 1) (G 5 bl) (G 7 bl) f i = G f i := fun f i a1 a2 a3 a4 a5 => Gbl_o (by omega)
    have g6 : ∀ k, Gbl G nb 4 bl (dp + 1) (G 5 bl) (G 7 bl) 6 k = G 6 k := fun k => go 6 k (by omega) (by omega) (by omega) (by omega) (by omega)
    have g0 : ∀ k, Gbl G nb 4 bl (dp + 1) (G 5 bl) (G 7 bl) 0 k = G 0 k := fun k => go 0 k (by omega) (by omega) (by omega) (by omega) (by omega)
    have g12 : ∀ k, Gbl G nb 4 bl (dp + 1) (G 5 bl) (G 7 bl) 12 k = G 12 k := fun k => go 12 k (by omega) (by omega) (by omega) (by omega) (by omega)
    have g13 : ∀ k, Gbl G nb 4 bl (dp + 1) (G 5 bl) (G 7 bl) 13 k = G 13 k := fun k => go 13 k (by omega) (by omega) (by omega) (by omega) (by omega)
    refine st11 H2 (ER_y hS hR3.1) (hB4 _) (fun v u => ?_) (hB1 (Gbl G nb 4 bl (dp + 1) (G 5 bl) (G 7 bl)) _ dp nd cd us es na nb _ _ 4 (nI bl) (Nat.le_refl _) (HQ_G (HQ_ub (ub2 := 0) hQ (by omega)) g6 g13) (HG_G hG g0 g6 g12) (SR_G hR3 gb.2.2.2.1 g12 g6) hL (fun hK => ⟨by rw [gb.1]; rfl, by rw [gb.2.1], gb.2.2.1, by rw [gb.1]; omega⟩)) (fun f z v a hF => ?_) (fun f z v b hM => ?_) (fun v4 s4 w4 t4 hA H4 => ?_)
    · repeat' (first | (with_reducible exact b195 hy) | (with_reducible exact b164 hy) | (with_reducible exact b196 hy) | (with_reducible exact b182 hy) | (with_reducible exact b179 hy) | (with_reducible exact b172 hy) | (with_reducible exact b173 hy (by decide)) | (with_reducible exact b189 hn hy) | (with_reducible exact b190 hn hy _) | (with_reducible exact b178 hy) | (with_reducible exact bk_none) | (with_reducible exact bk_some LR_rf) | (with_reducible refine bk_ite (fun _ => ?_) (fun _ => ?_)) | (with_reducible refine bk_rdL ?_) | (with_reducible refine bk_zS LR_tr (LR_I ?_ ?_ ?_ ?_) ?_) | (with_reducible refine bk_zS LR_tr (LR_J ?_ ?_) ?_) | (with_reducible refine bk_zV ?_) | (with_reducible refine bk_y0 LR_tr ?_ (fun _ => ?_)) | (with_reducible refine bk_y1 LR_tr ?_ (fun _ _ => ?_)) | (with_reducible exact bk_pu pu_167 _) | (with_reducible exact bk_pu pu_177 _) | (with_reducible refine bk_pu (pu_170 hn ?_) _) | (with_reducible exact bk_pu (pu_175 hn) _) | (omega) | (decide))
    · obtain ⟨hv, hF⟩ := hF
      have hF : FC len x s0 f z a := hF
      refine fw_i (fun _ => fw_some hF) (fun hne => ?_)
      have hv : zin? v 700 = true := by
        rcases hv with e | e
        · exact absurd e hne
        · exact e
      have hzb : zin? (nI bl) 700 = true := zin_nI hbl7 (by decide)
      unfold f45
      refine fcs_r6 hS hF ?_
      rw [y0s]
      repeat' (first | (with_reducible assumption) | (with_reducible refine fw_some ?_) | (with_reducible exact ⟨rfl, by assumption⟩) | (with_reducible refine fcs_r5 hS (by assumption) ?_) | (with_reducible refine fcs_r6 hS (by assumption) ?_) | (with_reducible refine fcs_r4 hS (by assumption) ?_) | (with_reducible refine fcs_32 (by assumption) ?_) | (with_reducible refine fcs_26 (by assumption) ?_) | (with_reducible refine fcs_37 (by assumption) ?_ ?_) | (with_reducible refine fcs_39 (by assumption) ?_ ?_) | (with_reducible refine fcs_41 (by assumption) ?_ ?_) | (with_reducible refine fcs_57 (by assumption) ?_) | (with_reducible refine fcs_58 hS (by assumption) ?_) | (with_reducible refine fcs_53 hS (by assumption) (fun _ _ => ?_)) | (with_reducible refine fcs_54 hx (by assumption) (fun _ _ => ?_)) | (with_reducible refine fcs_I (by assumption) hx ?_ ?_ ?_ (fun _ => ?_)) | (with_reducible refine fw_z ?_) | (with_reducible refine fw_i1 rfl ?_) | (with_reducible refine fw_i1 (by assumption) ?_) | (with_reducible refine fw_i0 (by assumption) ?_) | (with_reducible refine fw_i0 (fc_k (by assumption) ?_) ?_) | (with_reducible refine fcs_k (by assumption) ?_) | (refine fw_i0 (by decide) ?_) | (refine fw_i1 (by decide) ?_) | (omega) | (decide))
    · have hM2 : FM len y t0 f z b := hM
      repeat' (first | (with_reducible assumption) | (with_reducible refine fw_some ?_) | (with_reducible exact ⟨rfl, by assumption⟩) | (with_reducible refine fms_rd hS (by assumption) ?_) | (with_reducible refine fms_167 (by assumption) ?_) | (with_reducible refine fms_173 (by assumption) ?_) | (with_reducible refine fms_172 (by assumption) ?_) | (with_reducible refine fms_179 (by assumption) ?_) | (with_reducible refine fms_164 hn hS (by assumption) (fun _ _ => ?_)) | (with_reducible refine fms_196 (by assumption) ?_) | (with_reducible refine fms_195 hS (by assumption) ?_) | (with_reducible refine fms_182 hS (by assumption) (fun _ _ => ?_)) | (with_reducible refine fms_189 (by assumption) ?_) | (with_reducible refine fms_190 (by assumption) ?_) | (with_reducible refine fms_178 (by assumption) ?_) | (with_reducible refine fms_I (by assumption) hy ?_ (fun _ => ?_)) | (with_reducible refine fw_z ?_) | (with_reducible refine fw_i1 rfl ?_) | (with_reducible refine fw_i1 (by assumption) ?_) | (with_reducible refine fw_i0 (by assumption) ?_) | (refine fw_i0 (by decide) ?_) | (refine fw_i1 (by decide) ?_) | (omega) | (decide))
    obtain ⟨⟨ev, ew⟩, q4, nd4, cd4, us4, es4, na4, nb4, ⟨k1, k2, k3, k4⟩, hR4, ⟨hLC4, hLM4⟩, hD4⟩ := hA
    have ev : v4 = nI nb := ev
    have ew : w4 = nI nb := ew
    subst ev
    subst ew
    have hR4 : SR U len x y s0 t0 K np tz G bl (4 * na4) q4 dp nd4 cd4 us4 es4 na4 nb4 s4 t4 := SR_G hR4 gb.2.2.2.1.symm (fun k => (g12 k).symm) (fun k => (g6 k).symm)
    have hLC4 : LC x K na nb cd s2 s4 := hLC4
    have hLM4 : LM y na nb (sI t2 (y + 14) (20 * bl + w) 0) t4 := hLM4
    have hzb : zin? (nI bl) 700 = true := zin_nI hbl7 (by decide)
    have hzn : zin? (nI nb) 700 = true := zin_nI hb7 (by decide)
    have ec : (if nI nb = (-1 : Int32) then some s4 else zrd 0 (s4.2.2 1004 6) fun a7 => yb0 (f45 n a7 (nI bl) (nI nb) (nI w) s4) fun u8 => some u8) = some (sI (sI (sI s4 (x + 35) nb (nI w)) (x + 34) nb (s4.1 (x + 33) bl)) (x + 33) bl (nI nb)) := by
      rw [if_neg (fun e => (neqM (by omega)).mp e), (BC_rf hS hR4.1.1.1).2.2.1, grd (gck9 hx).2.2, y0s]
      unfold f45
      rw [if_pos hzn, nx_nI (show nb < 2 ^ 31 by omega), nx_nI (show bl < 2 ^ 31 by omega)]
      simp only [zlet, if_pos hzb, if_pos hzn]
      rw [hIo (show x + 29 + 4 ≠ x + 29 + 6 by omega)]
    have em : (zrd 12 (t4.2.2 1132 12) fun a7 => zlet (sI t4 (a7 + 14) (20 * bl + w) (nI nb)) fun u8 => some u8) = some (sI t4 (y + 14) (20 * bl + w) (nI nb)) := by
      rw [ER_y hS hR4.1, grd (gck12 hy)]; rfl
    rw [ec]
    rw [em]
    have hb6 : nb4 ≤ 700 := by
      have := hR4.2.2.1.2.2
      have := (ER_q hR4.1)
      have := hR4.1.2.2.2.1.2.2
      omega
    have gC : ∀ a i, ¬ ((a = x + 34 ∨ a = x + 35) ∧ i = nb) → ¬ (a = x + 33 ∧ i = bl) → (sI (sI (sI s4 (x + 35) nb (nI w)) (x + 34) nb (s4.1 (x + 33) bl)) (x + 33) bl (nI nb)).1 a i = s4.1 a i := fun a i e1 e2 => by
      rw [hIx (by omega), hIx (by omega), hIx (by omega)]
    have h4b : ∀ a b, x + 30 ≤ a → a ≤ x + 35 → b < nb → s4.1 a b = s.1 a b := fun a b e1 e2 e3 => (hLC4.2.2.2.2.2.2.1 a b e1 e2 e3).trans (hLC2.2.2.2.2.2.2.1 a b e1 e2 e3)
    have h4t : ∀ u, u < 20 → u ≠ w → t4.1 (y + 14) (20 * bl + u) = t.1 (y + 14) (20 * bl + u) := fun u e1 e2 => by
      rw [hLM4.2.2.2.2.2.2.2.2 _ (by omega), hIx (by omega), hLM2.2.2.2.2.2.2.2.2 _ (by omega)]
    refine Rs_A rfl rfl ⟨nb :: l, q4, nd4, cd4, us4, es4, na4, nb4, by omega, ⟨SR_wM hS (by omega) (SR_wC hS (by omega) (SR_wC hS (by omega) (SR_wC hS (by omega) hR4))), ⟨by omega, by omega, by omega⟩, ⟨?_, ?_⟩, ⟨?_, ?_⟩, CH_add (on := nb) (w := w) hCH ⟨Nat.le_refl _, by omega, hb7⟩ (by omega) hw h1 hIe ?_ ?_ (fun r hr => ?_) hIe (fun v hv hne => ?_), fun hK hm Gc hCP hdH => ?_⟩, ?_, ?_⟩
    · exact LC_tr (LC_tr (LC_tr hb2.2.2.1.1 hLC4 (by omega) (by omega) (by omega)) (LC_w (na := na0) (nb := bl) (cd := cd0) hx (by omega)) (by omega) (by omega) (by omega)) (LC_tr (LC_w (na := na0) (nb := bl) (cd := cd0) hx (by omega)) (LC_w (na := na0) (nb := bl) (cd := cd0) hx (by omega)) (by omega) (by omega) (by omega)) (by omega) (by omega) (by omega)
    · exact LM_tr (LM_tr (BI_w (v := 0) (v' := 0) hS hw hb2).1 hLM4 (by omega) (by omega)) (LM_w (na := na0) (nb := bl) hy (by omega)) (by omega) (by omega)
    · rw [gC _ _ (by omega) (by omega), h4b _ _ (by omega) (by omega) (by omega)]; exact h.2.2.2.1.1
    · rw [gC _ _ (by omega) (by omega), h4b _ _ (by omega) (by omega) (by omega)]; exact h.2.2.2.1.2
    · rw [hIo (by omega), hIe]; exact h4b _ _ (by omega) (by omega) (by omega)
    · rw [hIo (by omega), hIo (by omega), hIe]
    · exact ⟨by rw [gC _ _ (by omega) (by omega)]; exact h4b _ _ (by omega) (by omega) hr, by rw [gC _ _ (by omega) (by omega)]; exact h4b _ _ (by omega) (by omega) hr⟩
    · rw [hIx (by omega)]; exact h4t v hv hne
    · have hm4 : s4.1 1004 12 = -1 := by rw [← hm]; exact (gC _ _ (by omega) (by omega)).symm
      have hm2 := hLC4.2.2.2.2.1 hm4
      obtain ⟨G1, u1, u2, -, u4, u5⟩ := hb2.2.2.2.2.2 hK hm2 Gc hCP hdH
      have hCP1 : CP G G1 bl := CP_X hCP u1 (by omega)
      have hdH1 := dH_X (by omega) hdH u1
      have e5 : G1 5 bl = G 5 bl := hCP1.2.2.2.2.1
      have e7 : G1 7 bl = G 7 bl := hCP1.2.2.2.2.2
      have hdn : dH (Gbl G1 nb 4 bl (dp + 1) (G 5 bl) (G 7 bl)) na (nb + 1) nb := by
        have := rea_G (G := G1) (na := na) (nb := nb) (by omega) (hCP1.2.2.2.1.trans (h4 hK)) hdH1
        rw [e5, e7] at this; exact this
      have gb2 := Gbl_b (G := G1) (b := nb) (k := 4) (w := bl) (l := dp + 1) (rt := G 5 bl) (st := G 7 bl)
      have hCPn : CP (Gbl G nb 4 bl (dp + 1) (G 5 bl) (G 7 bl)) (Gbl G1 nb 4 bl (dp + 1) (G 5 bl) (G 7 bl)) nb := by
        refine ⟨fun k => ?_, gb2.1.trans gb.1.symm, gb2.2.1.trans gb.2.1.symm, gb2.2.2.1.trans gb.2.2.1.symm, gb2.2.2.2.1.trans gb.2.2.2.1.symm, gb2.2.2.2.2.trans gb.2.2.2.2.symm⟩
        have a2 := hCP1.1 k
        rw [g0, g6, g12, g13, Gbl_o (by omega), Gbl_o (by omega), Gbl_o (by omega), Gbl_o (by omega)]
        exact a2
      obtain ⟨G2, v1, v2, v3⟩ := hD4 hK hm4 _ hCPn hdn
      have hX12 : GX G1 G2 na nb := GX_tr (Gbl_X (na := na)) v1 (by omega) (by omega)
      have p1 := PD_mv (PD_mv u4 (Fut_wB (bl := bl) (a := 0) (k := 0) (v := s2.1 0 0) (a' := y + 14) (k' := 20 * bl + w) (v' := 0) (by omega) (by omega))) (Fut_L (s2 := s4) (t2 := t4) hK hX12 (by rw [sI_id rfl]; exact hLC4) hLM4 (Nat.le_refl _) (Nat.le_refl _) (Nat.le_refl _))
      have p2 := PD_mv p1 (Fut_wR (bl := bl) (on := nb) (k := 20 * bl + w) (v1 := nI w) (v2 := s4.1 (x + 33) bl) (v3 := nI nb) (v4 := nI nb) (by omega) (by omega) (by omega))
      have p3 := PD_mv v2 (Fut_wR (bl := bl) (on := nb) (k := 20 * bl + w) (v1 := nI w) (v2 := s4.1 (x + 33) bl) (v3 := nI nb) (v4 := nI nb) (by omega) (by omega) (by omega))
      refine ⟨G2, GX_tr u1 hX12 (by omega) (by omega), fun r hr => ?_, trivial, PD_join (er := na4) (eb := nb4) p2 p3 (by omega) (by omega) (by omega) (by omega) (by omega) (by omega) (by omega), fun b q1 q2 => ?_⟩
      rotate_left
      · by_cases e1 : b < nb
        · rw [(hX12.2.2 b e1).1]; exact u5 b q1 e1
        · by_cases e2 : b = nb
          · rw [e2, (v1.2.2 nb (by omega)).1, gb2.1]; omega
          · exact v3 b (by omega) q2
      rcases List.mem_cons.mp hr with e | e
      · subst e
        exact ⟨by rw [(v1.2.2 r (by omega)).1]; exact gb2.1, by rw [(v1.2.2 r (by omega)).2.1]; exact gb2.2.1⟩
      · have hrn := (hCH.2.1 r e).2
        exact ⟨by rw [(hX12.2.2 r hrn).1]; exact (u2 r e).1, by rw [(hX12.2.2 r hrn).2.1]; exact (u2 r e).2⟩
    · rw [gC _ _ (by omega) (by omega)]; exact h4b _ _ (by omega) (by omega) (by omega)
    · rw [hIo (by omega), hLM4.2.2.2.2.2.2.2.1 _ (by omega), hIo (by omega), hLM2.2.2.2.2.2.2.2.1 _ (by omega)]
  · obtain ⟨r, r1, r2⟩ := (c_44p hn hbl7 hCH hw).2 h1
    obtain ⟨s2, e1, g1⟩ := er_ref (n := n) (f := 5) hS hE
    obtain ⟨t2, e2, g2⟩ := er_wrong (n := n) (f := 5) hS (by decide) hE
    rw [r2, yb1_s, if_neg (fun e => (neqM r1).mp e), if_neg h1]
    have hz5 : zft U len q 5 = 5 := if_neg hk0
    rw [hz5] at g1
    refine Rs_B (f := 5) (z := q) ⟨s2, ?_, g1⟩ ⟨t2, ?_, g2⟩
    · unfold f43_92
      rw [show f32 n 5 s = _ from e1]; rfl
    · rw [show f173 n 5 (t.1 1132 4) t = _ from e2]; rfl
end ZQM
