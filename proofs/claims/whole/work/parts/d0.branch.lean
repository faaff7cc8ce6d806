/-! statements, both readers: if and while -/
section ZQI
variable {U : Nat → Nat} {len x y n K np bl ub q dp nd cd us es na nb q2 dp2 nd2 cd2 us2 r nb0 cd0 mE na2 nb2 : Nat} {s0 t0 tz s t s2 t2 s3 t3 sS tS : zσ} {G G2 G3 : Nat → Nat → Nat} {c m L E : Nat → Int32} {cs : Nat → Nat}
theorem SF_LL (h : SF x y r c m L E s t) (h1 : LC x K na nb cd s s2) (h2 : LM y na nb t t2) (hr : r < na) : SF x y r c m L E s2 t2 := by
  obtain ⟨-, -, -, -, -, p6, -⟩ := h1
  obtain ⟨-, -, -, -, -, q6, q7, -⟩ := h2
  exact ⟨fun j hj => by rw [p6 _ _ (by omega) (by omega) hr]; exact h.1 j hj, fun j a b d => by rw [q6 _ _ (by omega) hr]; exact h.2.1 j a b d, fun k hk => by rw [q7 _ _ (by omega) (by omega), q7 _ _ (by omega) (by omega)]; exact h.2.2 k hk⟩
/-- the statement's own data -/
theorem br_own {kk kd nb3 : Nat} (hkk : kk = 5 ∧ kd = 2 ∨ kk = 6 ∧ kd = 3) (hCP : CP G G2 bl) (h1 : G2 1 r = bl) (h10 : G2 10 r = kk) (hbl : bl < G 0 1) (hF : SF x y r c m L E s t) (hS : FS x y r s t s2 t2) (hcd : cs 1 ≤ 400) (c0 : c 0 = nI (zkd kk)) (m0 : m 0 = nI kk) (c3 : c 3 = nI (cs 0)) (c4 : c 4 = nI (cs 1)) (c6 : c 6 = nI bl) (hc : ∀ p, p < cs 1 → s2.1 (x + 27) p = s.1 (x + 27) p ∧ s2.1 (x + 28) p = s.1 (x + 28) p) (hX : XE G x y bl tz E 1 cs s) (hb : nb < G 0 1 ∧ c 1 = nI nb ∧ m 8 = nI nb ∧ G2 2 nb = kd ∧ G2 3 nb = r) (he : c 2 = -1 ∧ m 9 = -1 ∨ kk = 5 ∧ nb3 < G 0 1 ∧ c 2 = nI nb3 ∧ m 9 = nI nb3 ∧ G2 2 nb3 = 2 ∧ G2 3 nb3 = r) : dS0 G2 x y r s2 (hyb y t2 tz) := by
  have h0 : G2 0 1 = G 0 1 := (hCP.1 1).1
  have fC : ∀ j, j < 7 → j ≠ 5 → s2.1 (x + 20 + j) r = c j := fun j a b => by rw [hS.1 j a b]; exact hF.1 j a
  have gm : ∀ j, j < 10 → j ≠ 1 → j ≠ 6 → j ≠ 7 → (hyb y t2 tz).1 (y + 15 + j) r = m j := fun j a b d e => by
    rw [hyb_t (by omega), hS.2.1 j a b d e]; exact hF.2.1 j a d e
  have hE : tE G2 x y r 1 s2 (hyb y t2 tz) := tE_h hCP h1 hF hS hcd c3 c4 (by omega) hc hX
  refine ⟨⟨by rw [h1, h0]; exact hbl, ?_, ?_, ?_⟩, ?_⟩
  · rw [h1, ← c6]; exact fC 6 (by omega) (by omega)
  · rw [h10, ← c0]; exact fC 0 (by omega) (by omega)
  · rw [h10, ← m0]; exact gm 0 (by omega) (by omega) (by omega) (by omega)
  · have f1 : s2.1 (x + 21) r = c 1 := fC 1 (by omega) (by omega)
    have f2 : s2.1 (x + 22) r = c 2 := fC 2 (by omega) (by omega)
    have g8 : (hyb y t2 tz).1 (y + 23) r = m 8 := gm 8 (by omega) (by omega) (by omega) (by omega)
    have g9 : (hyb y t2 tz).1 (y + 24) r = m 9 := gm 9 (by omega) (by omega) (by omega) (by omega)
    unfold tO
    simp only [f1, f2, g8, g9, h10, h0]
    rcases hkk with ⟨rfl, rfl⟩ | ⟨rfl, rfl⟩
    · refine Or.inr (Or.inr (Or.inr (Or.inr (Or.inl ⟨rfl, hE, ⟨nb, hb⟩, ?_⟩))))
      rcases he with he | ⟨-, he⟩
      · exact Or.inl he
      · exact Or.inr ⟨nb3, he⟩
    · refine Or.inr (Or.inr (Or.inr (Or.inr (Or.inr (Or.inl ⟨rfl, hE, ⟨nb, hb⟩, ?_⟩)))))
      rcases he with he | ⟨e, -⟩
      · exact he
      · omega
/-- a block of an if or while: ghosts -/
theorem br_G {kk kd : Nat} (hkk : kk = 5 ∧ kd = 2 ∨ kk = 6 ∧ kd = 3) (hbl : bl < nb) (h1 : G 1 r = bl) (h10 : G 10 r = kk) (h4 : G 4 bl = dp) : dH (Gbl G nb kd r (dp + 1) (G 5 bl) nb) (r + 1) (nb + 1) nb := by
  obtain ⟨e2, e3, e4, e5, e7⟩ := Gbl_b (G := G) (b := nb) (k := kd) (w := r) (l := dp + 1) (rt := G 5 bl) (st := nb)
  unfold dH
  rw [e7, e3, e2, e4, e5]
  have g1 : Gbl G nb kd r (dp + 1) (G 5 bl) nb 1 r = bl := by rw [Gbl_o (by omega)]; exact h1
  have g10 : Gbl G nb kd r (dp + 1) (G 5 bl) nb 10 r = kk := by rw [Gbl_o (by omega)]; exact h10
  refine ⟨fun e => by omega, fun e => by omega, fun _ => ⟨by omega, ?_, ?_, rfl, ?_, ?_⟩, fun e => by omega, by omega, by omega, rfl, Nat.le_refl _⟩
  · rw [g1, Gbl_o (by omega), h4]
  · rw [g1, Gbl_o (by omega)]
  · rw [g10]; omega
  · rw [g1]; omega
theorem Fut_wr {a1 b0 b1 c1 er eb j i : Nat} {v w : Int32} (hj : j < 7) (hi : i < 10 ∧ i ≠ 6 ∧ i ≠ 7) : Fut x y (r + 1) a1 b0 b1 c1 er eb G s t G (sI s (x + 20 + j) r v) (sI t (y + 15 + i) r w) :=
  ⟨GX_rf, fun r' p1 p2 => ⟨⟨fun j a b => hIx (by omega), fun j a b c d => hIx (by omega), fun k hk => ⟨hIx (by omega), hIx (by omega)⟩⟩, fun _ => ⟨hIx (by omega), hIx (by omega)⟩⟩, fun b p1 p2 => ⟨⟨fun j a => hIx (by omega), hIx (by omega), fun w hw => hIx (by omega)⟩, fun _ => ⟨hIx (by omega), hIx (by omega)⟩⟩, fun p hp => ⟨hIx (by omega), hIx (by omega)⟩⟩
/-- what the blocks of an if or while leave -/
def brI (x y : Nat) (K : Nat) (tz : zσ) (G : Nat → Nat → Nat) (bl r kk kd nb naF nbF cdF nb3 : Nat) (el : Prop) (s t : zσ) : Prop := K = 1 → s.1 1004 12 = -1 → ∀ Gc, CP G Gc bl → ∃ G', GX Gc G' r nb ∧ (G' 1 r = bl ∧ G' 10 r = kk) ∧ (G' 2 nb = kd ∧ G' 3 nb = r) ∧ (el → G' 2 nb3 = 2 ∧ G' 3 nb3 = r) ∧ PD x y (r + 1) naF nb nbF cdF naF nbF tz G' s t ∧ GK nb nbF G'
theorem br_fin {kk kd qw naF nbF cdF nb3 qF ndF usF esF : Nat} {el : Prop} {a b : zσ} (hS : S0 U len x y s0 t0) (hG : HG K y tz G) (hkk : kk = 5 ∧ kd = 2 ∨ kk = 6 ∧ kd = 3) (hbl : bl < nb) (hR : SR U len x y s0 t0 K np tz G bl (4 * naF) qF dp ndF cdF usF esF naF nbF a b) (hl : qw + 1 ≤ qF ∧ r + 1 ≤ naF ∧ nb + 1 ≤ nbF ∧ cd ≤ cdF) (hLC : LC x K r nb cd sS a) (hLM : LM y r nb tS b) (hF : SF x y r c m L E a b) (hc : c 0 = nI (zkd kk) ∧ m 0 = nI kk ∧ c 3 = nI cd ∧ c 5 = -1 ∧ c 6 = nI bl ∧ m 1 = -1 ∧ c 1 = nI nb ∧ m 8 = nI nb) (hX : K = 1 → cs 0 = cd ∧ cs 1 ≤ cdF ∧ c 4 = nI (cs 1) ∧ XE G x y bl tz E 1 cs a) (he : c 2 = -1 ∧ m 9 = -1 ∨ el ∧ kk = 5 ∧ nb3 < nbF ∧ c 2 = nI nb3 ∧ m 9 = nI nb3) (hI : brI x y K tz G bl r kk kd nb naF nbF cdF nb3 el a b) : SA U len x y s0 t0 K np tz G bl qw dp r nb cd sS tS (nI r, a) (nI r, b) := by
  obtain ⟨c0, m0, c3, c5, c6, m1, c1, m8⟩ := hc
  have hb5 : nbF ≤ 700 ∧ cdF ≤ 400 := by
    have := hR.2.2.1.2.2
    have := (ER_q hR.1)
    have := hR.1.2.2.2.1.2.2
    have := hR.1.2.2.2.2.2.1.2.2
    have := hR.1.2.2.2.2.1.2.2
    omega
  refine ⟨⟨rfl, rfl⟩, qF, ndF, cdF, usF, esF, naF, nbF, ⟨by omega, by omega, by omega, by omega⟩, hR, ⟨hLC, hLM⟩, ⟨(hF.1 5 (by omega)).trans c5, (hF.2.1 1 (by omega) (by omega) (by omega)).trans m1⟩, fun hK hm Gc hCP => ?_⟩
  have hbG := SR_nb hR hG hK (by omega)
  obtain ⟨x0, x1, x2, x3⟩ := hX hK
  obtain ⟨G', g1, ⟨g2, g3⟩, ⟨g4, g5⟩, g6, hP, hKK⟩ := hI hK hm Gc hCP
  refine ⟨G', g1, g2, fun G3 s' t' hf => ?_, hKK⟩
  obtain ⟨f1, f2, f3, f4⟩ := id hf
  have hCP3 : CP G G3 bl := CP_X (CP_X hCP g1 hbl) f1 (by omega)
  have hin : dA x y (r + 1) naF nb nbF naF tz G3 s' t' := hP G3 s' t' ⟨f1, fun r' p1 p2 => ⟨(f2 r' (by omega) p2).1, fun _ => (f2 r' (by omega) p2).2 (by omega)⟩, fun b p1 p2 => ⟨(f3 b p1 p2).1, fun e => (f3 b p1 p2).2 e⟩, f4⟩
  refine ⟨fun r' p1 p2 => ?_, hin.2⟩
  by_cases e : r' = r
  · subst e
    have ub2 : G3 2 nb = kd := by rw [(f1.2.2 nb (by omega)).1]; exact g4
    have ub3 : G3 3 nb = r' := by rw [(f1.2.2 nb (by omega)).2.1]; exact g5
    refine ⟨br_own (nb := nb) (nb3 := nb3) (cs := cs) hkk hCP3 ((f1.2.1 r' (by omega)).1.trans g2) ((f1.2.1 r' (by omega)).2.trans g3) (by omega) hF (f2 r' p1 p2).1 (by omega) c0 m0 (by rw [x0]; exact c3) x2 c6 (fun p hp => f4 p (by omega)) x3 ⟨by omega, c1, m8, ub2, ub3⟩ ?_, fun e => absurd rfl e⟩
    rcases he with he | ⟨e1, e2, e3, e4, e5⟩
    · exact Or.inl he
    · refine Or.inr ⟨e2, by omega, e4, e5, ?_, ?_⟩
      · rw [(f1.2.2 nb3 (by omega)).1]; exact (g6 e1).1
      · rw [(f1.2.2 nb3 (by omega)).2.1]; exact (g6 e1).2
  · exact ⟨(hin.1 r' (by omega) p2).1, fun _ => (hin.1 r' (by omega) p2).2 (by omega)⟩
/-- the ghosts for an inner block of a statement -/
theorem br_in {kk kd : Nat} {Gc : Nat → Nat → Nat} (hkk : kk = 5 ∧ kd = 2 ∨ kk = 6 ∧ kd = 3) (hbl : bl < nb) (hCP : CP G Gc bl) (h1 : Gc 1 r = bl) (h10 : Gc 10 r = kk) (h4 : G 4 bl = dp) : ∃ Gn, (∀ na, GX Gc Gn na nb) ∧ CP (Gbl G nb kd r (dp + 1) (G 5 bl) nb) Gn nb ∧ dH Gn (r + 1) (nb + 1) nb ∧ (Gn 2 nb = kd ∧ Gn 3 nb = r) := by
  have e5 : Gc 5 bl = G 5 bl := hCP.2.2.2.2.1
  have gb := Gbl_b (G := G) (b := nb) (k := kd) (w := r) (l := dp + 1) (rt := G 5 bl) (st := nb)
  have gb2 := Gbl_b (G := Gc) (b := nb) (k := kd) (w := r) (l := dp + 1) (rt := G 5 bl) (st := nb)
  refine ⟨Gbl Gc nb kd r (dp + 1) (G 5 bl) nb, fun _ => Gbl_X, ⟨fun k => ?_, gb2.1.trans gb.1.symm, gb2.2.1.trans gb.2.1.symm, gb2.2.2.1.trans gb.2.2.1.symm, gb2.2.2.2.1.trans gb.2.2.2.1.symm, gb2.2.2.2.2.trans gb.2.2.2.2.symm⟩, ?_, gb2.1, gb2.2.1⟩
  · have a2 := hCP.1 k
    rw [Gbl_o (by omega), Gbl_o (by omega), Gbl_o (by omega), Gbl_o (by omega), Gbl_o (by omega), Gbl_o (by omega), Gbl_o (by omega), Gbl_o (by omega)]
    exact a2
  · have := br_G (G := Gc) (nb := nb) hkk hbl h1 h10 (hCP.2.2.2.1.trans h4)
    rw [e5] at this
    exact this
theorem br_ok {gc : Int32 → Int32 → zσ → Option (Int32 × zσ)} {gm : zσ → Option (Int32 × zσ)} {kk kd : Nat} {qw : Nat} (hQ : HQ n U len x y s0 t0 K tz G ub) (hG : HG K y tz G) (hB : BPP n U len x y s0 t0 K np tz dp gc gm) (hr : r < 200) (hbl : bl < nb) (h4 : K = 1 → G 4 bl = dp) (hkk : kk = 5 ∧ kd = 2 ∨ kk = 6 ∧ kd = 3) (hqw : qw < q) (hL : ∀ q2, q + 1 ≤ q2 → (q + 2 ≤ q2 ∨ tkKind U len q = 1 ∨ tkKind U len q = 2 ∨ tkKind U len q = 142 ∨ tkKind U len q = 143 ∨ tkKind U len q = 144) → 6 * nb + 4 ≤ q2 + dp) (h : ST U len x y s0 t0 K np tz G bl r nb cd sS tS (4 * r) q dp nd cd us es nb (c0F (nI (zkd kk)) cd bl) (m0F (nI kk)) L E 0 cs s t) (H : Hb (fun u => u) K np y tz (f201_147 n gm (nI r) (nI kk) y t)) : Rs (FC len x s0) (FM len y t0) (ZB K y tz) (fun a b => SA U len x y s0 t0 K np tz G bl qw dp r nb cd sS tS (nI r, a) (nI r, b)) (yb0 (f49 n (f52 n 20) s) fun u2 => zrd 6 (u2.2.2 1004 5) fun a3 => zrd 6 (u2.2.2 1004 5) fun a4 => zlet (sI u2 (a3 + 5) r (u2.1 a4 11)) fun u5 => zrd 6 (u5.2.2 1004 5) fun a6 => f48_66 n gc (nI r) (if kk = 5 then 0 else 1) (nI kd) (nI r) (a6 + 2) u5) (f201_147 n gm (nI r) (nI kk) y t) := by
  obtain ⟨hn, hS, -, h13, -⟩ := id hQ
  obtain ⟨hB1, hB2, hB3, hB4⟩ := id hB
  have hx := hS.1
  have hy := hS.2.1
  obtain ⟨hz, hnx, h4m, h4a, h8z, h8n⟩ := r4 (r := r) (i := 0) hr (by omega)
  have e80 : zin? ((4 : Int32) * nI r) 800 = true := by rw [h4m]; exact h8z
  have n80 : nx ((4 : Int32) * nI r) = 4 * r + 0 := by rw [h4m]; exact h8n
  unfold f201_147 at H ⊢
  unfold f48_66
  simp only [if_pos hz, hnx, if_pos e80, n80] at H ⊢
  refine st_e (mE := 0) (HQ_ub (ub2 := 4 * r) hQ (by omega)) (by omega) h H (fun u => ?_) (fun f z u hF => ?_) (fun f z u hM => ?_) (fun q2 nd2 cd2 us2 s2 t2 hq2 hkin h2 hu2 har H2 => ?_)
  · repeat' (first | (with_reducible exact hB4 _) | (with_reducible exact b195 hy) | (with_reducible exact b164 hy) | (with_reducible exact b196 hy) | (with_reducible exact b182 hy) | (with_reducible exact b179 hy) | (with_reducible exact b172 hy) | (with_reducible exact b173 hy (by decide)) | (with_reducible exact b189 hn hy) | (with_reducible exact b190 hn hy _) | (with_reducible exact b178 hy) | (with_reducible exact bk_none) | (with_reducible exact bk_some LR_rf) | (with_reducible refine bk_ite (fun _ => ?_) (fun _ => ?_)) | (with_reducible refine bk_rdL ?_) | (with_reducible refine bk_zS LR_tr (LR_I ?_ ?_ ?_ ?_) ?_) | (with_reducible refine bk_zS LR_tr (LR_J ?_ ?_) ?_) | (with_reducible refine bk_zV ?_) | (with_reducible refine bk_y0 LR_tr ?_ (fun _ => ?_)) | (with_reducible refine bk_y1 LR_tr ?_ (fun _ _ => ?_)) | (with_reducible exact bk_pu pu_167 _) | (with_reducible exact bk_pu pu_177 _) | (with_reducible refine bk_pu (pu_170 hn ?_) _) | (with_reducible exact bk_pu (pu_175 hn) _) | (omega) | (decide))
  · refine fcs_r5 hS hF (fcs_r5 hS hF (fcs_I hF hx (by omega) (by omega) (by omega) (fun hF2 => fcs_r5 hS hF2 ?_)))
    rw [hB2 _ _ _ _ _ hF2, yb1_s]
    refine fcs_I hF2 hx (by omega) (by omega) (by omega) (fun hF3 => ?_)
    refine fw_i (fun _ => fcs_39 hF3 (by decide) (fw_i1 rfl (fw_some hF3))) (fun _ => fw_some hF3)
  · rw [hB3 _ _ _ hM, yb1_s]
    repeat' (first | (with_reducible assumption) | (with_reducible refine fw_some ?_) | (with_reducible exact ⟨rfl, by assumption⟩) | (with_reducible refine fms_rd hS (by assumption) ?_) | (with_reducible refine fms_167 (by assumption) ?_) | (with_reducible refine fms_173 (by assumption) ?_) | (with_reducible refine fms_172 (by assumption) ?_) | (with_reducible refine fms_179 (by assumption) ?_) | (with_reducible refine fms_164 hn hS (by assumption) (fun _ _ => ?_)) | (with_reducible refine fms_196 (by assumption) ?_) | (with_reducible refine fms_195 hS (by assumption) ?_) | (with_reducible refine fms_182 hS (by assumption) (fun _ _ => ?_)) | (with_reducible refine fms_189 (by assumption) ?_) | (with_reducible refine fms_190 (by assumption) ?_) | (with_reducible refine fms_178 (by assumption) ?_) | (with_reducible refine fms_I (by assumption) hy ?_ (fun _ => ?_)) | (with_reducible refine fw_z ?_) | (with_reducible refine fw_i1 rfl ?_) | (with_reducible refine fw_i1 (by assumption) ?_) | (with_reducible refine fw_i0 (by assumption) ?_) | (refine fw_i0 (by decide) ?_) | (refine fw_i1 (by decide) ?_) | (omega) | (decide))
  have hcd2 : s2.1 (x + 19) 11 = nI cd2 := h2.1.1.2.2.2.2.2.1.1
  have h3 := ST_wC (j := 4) (v := nI cd2) hS (by omega) h2
  rw [ER_5 hS h2.1.1, grd (gck9 hx).2.1, grd (gck9 hx).2.1, hcd2]
  refine Rs_zc ?_
  rw [show (sI s2 (x + 19 + 5) r (nI cd2)).2.2 1004 5 = some (x + 19) from ER_5 hS h3.1.1, grd (gck9 hx).2.1]
  obtain ⟨hR3, hF3, ⟨hLC3, hLM3, l1, -⟩, hX3⟩ := id h3
  have gb := Gbl_b (G := G) (b := nb) (k := kd) (w := r) (l := dp + 1) (rt := G 5 bl) (st := nb)
  have go : ∀ b kd (f i : Nat), f ≠ 2 → f ≠ 3 → f ≠ 4 → f ≠ 5 → f ≠ 7 → Gbl G b kd r (dp + 1) (G 5 bl) b f i = G f i := fun b kd f i a1 a2 a3 a4 a5 => Gbl_o (by omega)
  have key : ∀ (q nd cd us es na nb : Nat) (s t : zσ) (kd : Nat), r < na → bl < nb → kd ≤ 3 → SR U len x y s0 t0 K np tz G bl (4 * na) q dp nd cd us es na nb s t → 6 * nb + 4 ≤ q + dp → Hb (fun u => u.2) K np y tz (gm t) → Rs (fun f z p => (p.1 = -1 ∨ zin? p.1 700 = true) ∧ FC len x s0 f z p.2) (fun f z p => FM len y t0 f z p.2) (ZB K y tz) (BA U len x y s0 t0 K np tz (Gbl G nb kd r (dp + 1) (G 5 bl) nb) q dp na nb cd s t) (gc (nI kd) (nI r) s) (gm t) := fun q nd cd us es na nb s t kd hna hbn hkd hR h6 H => by
    have gb := Gbl_b (G := G) (b := nb) (k := kd) (w := r) (l := dp + 1) (rt := G 5 bl) (st := nb)
    exact hB1 _ q dp nd cd us es na nb s t (nI kd) (nI r) (Nat.le_refl _) (HQ_G (HQ_ub (ub2 := 0) hQ (by omega)) (fun k => go nb kd 6 k (by omega) (by omega) (by omega) (by omega) (by omega)) (fun k => go nb kd 13 k (by omega) (by omega) (by omega) (by omega) (by omega))) (HG_G hG (fun k => go nb kd 0 k (by omega) (by omega) (by omega) (by omega) (by omega)) (fun k => go nb kd 6 k (by omega) (by omega) (by omega) (by omega) (by omega)) (fun k => go nb kd 12 k (by omega) (by omega) (by omega) (by omega) (by omega))) (SR_G hR gb.2.2.2.1 (fun k => go nb kd 12 k (by omega) (by omega) (by omega) (by omega) (by omega)) (fun k => go nb kd 6 k (by omega) (by omega) (by omega) (by omega) (by omega))) h6 (fun hK => ⟨by rw [gb.1], by rw [gb.2.1], gb.2.2.1, by rw [gb.1]; omega⟩) H
  have back : ∀ (q nd cd us es na nb nb' : Nat) (s t : zσ) (kd : Nat), SR U len x y s0 t0 K np tz (Gbl G nb' kd r (dp + 1) (G 5 bl) nb') nb' (4 * na) q dp nd cd us es na nb s t → SR U len x y s0 t0 K np tz G bl (4 * na) q dp nd cd us es na nb s t := fun q nd cd us es na nb nb' s t kd hR => by
    have gb := Gbl_b (G := G) (b := nb') (k := kd) (w := r) (l := dp + 1) (rt := G 5 bl) (st := nb')
    exact SR_G hR gb.2.2.2.1.symm (fun k => (go nb' kd 12 k (by omega) (by omega) (by omega) (by omega) (by omega)).symm) (fun k => (go nb' kd 6 k (by omega) (by omega) (by omega) (by omega) (by omega)).symm)
  refine st11 H2 (ER_y hS h3.1.1) (hB4 _) (fun v u => ?_) (key q2 nd2 cd2 us2 (es + 1) (r + 1) nb _ _ kd (by omega) hbl (by omega) (SR_ub hR3 (by omega)) (hL q2 hq2 hkin)) (fun f z v a hF => ?_) (fun f z w b hM => ?_) (fun v4 s4 w4 t4 hA H4 => ?_)
  · repeat' (first | (with_reducible exact hB4 _) | (with_reducible exact b195 hy) | (with_reducible exact b164 hy) | (with_reducible exact b196 hy) | (with_reducible exact b182 hy) | (with_reducible exact b179 hy) | (with_reducible exact b172 hy) | (with_reducible exact b173 hy (by decide)) | (with_reducible exact b189 hn hy) | (with_reducible exact b190 hn hy _) | (with_reducible exact b178 hy) | (with_reducible exact bk_none) | (with_reducible exact bk_some LR_rf) | (with_reducible refine bk_ite (fun _ => ?_) (fun _ => ?_)) | (with_reducible refine bk_rdL ?_) | (with_reducible refine bk_zS LR_tr (LR_I ?_ ?_ ?_ ?_) ?_) | (with_reducible refine bk_zS LR_tr (LR_J ?_ ?_) ?_) | (with_reducible refine bk_zV ?_) | (with_reducible refine bk_y0 LR_tr ?_ (fun _ => ?_)) | (with_reducible refine bk_y1 LR_tr ?_ (fun _ _ => ?_)) | (with_reducible exact bk_pu pu_167 _) | (with_reducible exact bk_pu pu_177 _) | (with_reducible refine bk_pu (pu_170 hn ?_) _) | (with_reducible exact bk_pu (pu_175 hn) _) | (omega) | (decide))
  · refine fcs_I hF.2 hx (by omega) (by omega) (by omega) (fun hF3 => ?_)
    refine fw_i (fun _ => fcs_39 hF3 (by decide) (fw_i1 rfl (fw_some hF3))) (fun _ => fw_some hF3)
  · have hM2 : FM len y t0 f z b := hM
    repeat' (first | (with_reducible assumption) | (with_reducible refine fw_some ?_) | (with_reducible exact ⟨rfl, by assumption⟩) | (with_reducible refine fms_rd hS (by assumption) ?_) | (with_reducible refine fms_167 (by assumption) ?_) | (with_reducible refine fms_173 (by assumption) ?_) | (with_reducible refine fms_172 (by assumption) ?_) | (with_reducible refine fms_179 (by assumption) ?_) | (with_reducible refine fms_164 hn hS (by assumption) (fun _ _ => ?_)) | (with_reducible refine fms_196 (by assumption) ?_) | (with_reducible refine fms_195 hS (by assumption) ?_) | (with_reducible refine fms_182 hS (by assumption) (fun _ _ => ?_)) | (with_reducible refine fms_189 (by assumption) ?_) | (with_reducible refine fms_190 (by assumption) ?_) | (with_reducible refine fms_178 (by assumption) ?_) | (with_reducible refine fms_I (by assumption) hy ?_ (fun _ => ?_)) | (with_reducible refine fw_z ?_) | (with_reducible refine fw_i1 rfl ?_) | (with_reducible refine fw_i1 (by assumption) ?_) | (with_reducible refine fw_i0 (by assumption) ?_) | (refine fw_i0 (by decide) ?_) | (refine fw_i1 (by decide) ?_) | (omega) | (decide))
  obtain ⟨⟨ev, ew⟩, q4, nd4, cd4, us4, es4, na4, nb4, ⟨k1, k2, k3, k4⟩, hR4, ⟨hLC4, hLM4⟩, hD4⟩ := hA
  have ev : v4 = nI nb := ev
  have ew : w4 = nI nb := ew
  subst ev
  subst ew
  replace hR4 := back _ _ _ _ _ _ _ _ _ _ _ hR4
  have hLC4 : LC x K (r + 1) nb cd2 (sI s2 (x + 24) r (nI cd2)) s4 := hLC4
  have hLM4 : LM y (r + 1) nb t2 t4 := hLM4
  refine Rs_zc (Rs_zm ?_)
  replace H4 := Hb_z H4
  have hR5 : SR U len x y s0 t0 K np tz G bl (4 * na4) q4 dp nd4 cd4 us4 es4 na4 nb4 (sI s4 (x + 21) r (nI nb)) (sI t4 (y + 23) r (nI nb)) := SR_wM hS (by omega) (SR_wC hS (by omega) hR4)
  have hF5 := SF_m (j := 8) (v := nI nb) (by omega) (by omega) (by omega) (SF_c (j := 1) (v := nI nb) (by omega) (SF_LL hF3 hLC4 hLM4 (by omega)))
  have hLC5 : LC x K r nb cd sS (sI s4 (x + 21) r (nI nb)) := LC_tr (LC_tr hLC3 hLC4 (by omega) (by omega) l1) (LC_w (na := r) (nb := nb) (cd := cd) hx (by omega)) (by omega) (by omega) (by omega)
  have hLM5 : LM y r nb tS (sI t4 (y + 23) r (nI nb)) := LM_tr (LM_tr hLM3 hLM4 (by omega) (by omega)) (LM_w (na := r) (nb := nb) hy (by omega)) (by omega) (by omega)
  have hX5 : K = 1 → uN cs 1 cd2 0 = cd ∧ uN cs 1 cd2 1 = cd2 ∧ XE G x y bl tz (uf E 0 (nI es)) 1 (uN cs 1 cd2) (sI s4 (x + 21) r (nI nb)) := fun hK => by
    obtain ⟨x1, x2, x3⟩ := hX3 hK
    refine ⟨x2, x1, XE_fr x3 (fun p hp => ?_)⟩
    rw [x1] at hp
    have h8 := hLC4.2.2.2.2.2.2.2 hK p hp
    rw [hIo (by omega), hIo (by omega)] at h8
    rw [hIo (by omega), hIo (by omega), hIo (by omega), hIo (by omega)]; exact h8
  have hI5 : brI x y K tz G bl r kk kd nb na4 nb4 cd4 0 False (sI s4 (x + 21) r (nI nb)) (sI t4 (y + 23) r (nI nb)) := fun hK hm Gc hCP => by
    have hm4 : s4.1 1004 12 = -1 := by rw [← hm]; exact (hIx (by omega)).symm
    have hCPs : CP G (Gst Gc r bl kk) bl := CP_X hCP (Gst_X (nb := nb)) hbl
    obtain ⟨Gn, n1, n2, n3, n4, n5⟩ := br_in (nb := nb) (kd := kd) hkk hbl hCPs Gst_1.1 Gst_1.2 (h4 hK)
    obtain ⟨G', hX', hP, hKK⟩ := hD4 hK hm4 Gn n2 n3
    have hP2 : PD x y (r + 1) na4 nb nb4 cd4 na4 nb4 tz G' s4 t4 := fun G3 s' t' hf => hP G3 s' t' ⟨hf.1, hf.2.1, fun b p1 p2 => ⟨(hf.2.2.1 b p1 p2).1, fun _ => (hf.2.2.1 b p1 p2).2 (by omega)⟩, hf.2.2.2⟩
    refine ⟨G', GX_tr (GX_tr (Gst_X (nb := nb)) (n1 (r + 1)) (by omega) (by omega)) hX' (by omega) (by omega), ⟨?_, ?_⟩, ⟨?_, ?_⟩, fun e => e.elim, PD_mv hP2 (Fut_wr (j := 1) (i := 8) (by omega) (by omega)), fun b p1 p2 => ?_⟩
    · rw [(hX'.2.1 r (by omega)).1, ((n1 (r + 1)).2.1 r (by omega)).1]; exact Gst_1.1
    · rw [(hX'.2.1 r (by omega)).2, ((n1 (r + 1)).2.1 r (by omega)).2]; exact Gst_1.2
    · rw [(hX'.2.2 nb (by omega)).1]; exact n4
    · rw [(hX'.2.2 nb (by omega)).2.1]; exact n5
    · by_cases eb : b = nb
      · rw [eb, (hX'.2.2 nb (by omega)).1, n4]; omega
      · exact hKK b (by omega) p2
  have hend : SA U len x y s0 t0 K np tz G bl qw dp r nb cd sS tS (nI r, sI s4 (x + 21) r (nI nb)) (nI r, sI t4 (y + 23) r (nI nb)) := br_fin (cs := uN cs 1 cd2) (el := False) (nb3 := 0) hS hG hkk hbl hR5 ⟨by omega, by omega, by omega, by omega⟩ hLC5 hLM5 hF5 ⟨rfl, rfl, rfl, rfl, rfl, rfl, rfl, rfl⟩ (fun hK => ⟨(hX5 hK).1, by rw [(hX5 hK).2.1]; omega, by rw [(hX5 hK).2.1]; rfl, (hX5 hK).2.2⟩) (Or.inl ⟨rfl, rfl⟩) hI5
  rw [m_goes (show (sI t4 (y + 23) r (nI nb)).1 1132 9 = 0 from hR5.1.2.1.2.2), yb1_s, if_neg n10] at H4 ⊢
  rcases hkk with ⟨rfl, rfl⟩ | ⟨rfl, rfl⟩
  · rw [if_pos rfl, if_pos rfl]
    rw [if_pos (show nI 5 = 5 from rfl)] at H4 ⊢
    have we : f170 n 49 (sI t4 (y + 23) r (nI nb)) = some (zone (decide (tkKind U len q4 = 140)), sI t4 (y + 23) r (nI nb)) := tm_word (w := 12) hn hR5.1.2.1.2.1 (by decide) (by decide) (by decide +kernel)
    rw [we, yb1_s] at H4 ⊢
    by_cases e140 : tkKind U len q4 = 140
    · rw [zone_1 e140, if_neg n10] at H4 ⊢
      have ec : f39 n 140 (sI s4 (x + 21) r (nI nb)) = yb0 (f26 n (sI s4 (x + 21) r (nI nb))) fun u => some (1, u) := by
        unfold f39
        rw [ER_k hR5.1, if_pos e140]
      rw [ec]
      simp only [as_10, if_neg n10]
      have hq4 := ER_q hR5.1
      have hlen := (w_len (w := 12) (L := 4) hq4.2.1 hq4.1 (by omega) e140 zWd_4.1 (by omega) (by decide) (by decide)).1
      have hnx4 : tkEnd U len q4 ≤ tkNx U len q4 := zsk_ge
      refine er_n hn hS hR5.1 H4 (fun u => ?_) (fun s6 t6 hab hq6 H6 => ?_)
      · repeat' (first | (with_reducible exact hB4 _) | (with_reducible exact b195 hy) | (with_reducible exact b164 hy) | (with_reducible exact b196 hy) | (with_reducible exact b182 hy) | (with_reducible exact b179 hy) | (with_reducible exact b172 hy) | (with_reducible exact b173 hy (by decide)) | (with_reducible exact b189 hn hy) | (with_reducible exact b190 hn hy _) | (with_reducible exact b178 hy) | (with_reducible exact bk_none) | (with_reducible exact bk_some LR_rf) | (with_reducible refine bk_ite (fun _ => ?_) (fun _ => ?_)) | (with_reducible refine bk_rdL ?_) | (with_reducible refine bk_zS LR_tr (LR_I ?_ ?_ ?_ ?_) ?_) | (with_reducible refine bk_zS LR_tr (LR_J ?_ ?_) ?_) | (with_reducible refine bk_zV ?_) | (with_reducible refine bk_y0 LR_tr ?_ (fun _ => ?_)) | (with_reducible refine bk_y1 LR_tr ?_ (fun _ _ => ?_)) | (with_reducible exact bk_pu pu_167 _) | (with_reducible exact bk_pu pu_177 _) | (with_reducible refine bk_pu (pu_170 hn ?_) _) | (with_reducible exact bk_pu (pu_175 hn) _) | (omega) | (decide))
      have hR6 := SR_C hS hR5 (SC_E hab.1) hab.2 (EC_28 hab.1) (by omega) (Nat.le_refl _) (Nat.le_refl _)
      have hF6 := SF_C hS hF5 (SC_E hab.1)
      have hLC6 : LC x K na4 nb4 cd4 (sI s4 (x + 21) r (nI nb)) s6 := LC_C hx (SC_E hab.1)
      have hLM6 : LM y na4 nb4 (sI t4 (y + 23) r (nI nb)) t6 := LM_C hy (SC_E hab.1)
      rw [ER_5 hS hR6.1, grd (gck9 hx).2.1]
      have hb6 := hR5.2.2.1.2.2
      refine st11 H6 (ER_y hS hR6.1) (hB4 _) (fun v u => ?_) (key _ nd4 cd4 us4 es4 na4 nb4 s6 t6 2 (by omega) (by omega) (by omega) hR6 (by omega)) (fun f z v a hF => ?_) (fun f z w b hM => ?_) (fun v7 s7 w7 t7 hA7 H7 => ?_)
      · repeat' (first | (with_reducible exact b195 hy) | (with_reducible exact b164 hy) | (with_reducible exact b196 hy) | (with_reducible exact b182 hy) | (with_reducible exact b179 hy) | (with_reducible exact b172 hy) | (with_reducible exact b173 hy (by decide)) | (with_reducible exact b189 hn hy) | (with_reducible exact b190 hn hy _) | (with_reducible exact b178 hy) | (with_reducible exact bk_none) | (with_reducible exact bk_some LR_rf) | (with_reducible refine bk_ite (fun _ => ?_) (fun _ => ?_)) | (with_reducible refine bk_rdL ?_) | (with_reducible refine bk_zS LR_tr (LR_I ?_ ?_ ?_ ?_) ?_) | (with_reducible refine bk_zS LR_tr (LR_J ?_ ?_) ?_) | (with_reducible refine bk_zV ?_) | (with_reducible refine bk_y0 LR_tr ?_ (fun _ => ?_)) | (with_reducible refine bk_y1 LR_tr ?_ (fun _ _ => ?_)) | (with_reducible exact bk_pu pu_167 _) | (with_reducible exact bk_pu pu_177 _) | (with_reducible refine bk_pu (pu_170 hn ?_) _) | (with_reducible exact bk_pu (pu_175 hn) _) | (omega) | (decide))
      · exact fcs_I hF.2 hx (by omega) (by omega) (by omega) (fun hF3 => fw_some hF3)
      · have hM2 : FM len y t0 f z b := hM
        repeat' (first | (with_reducible assumption) | (with_reducible refine fw_some ?_) | (with_reducible exact ⟨rfl, by assumption⟩) | (with_reducible refine fms_rd hS (by assumption) ?_) | (with_reducible refine fms_167 (by assumption) ?_) | (with_reducible refine fms_173 (by assumption) ?_) | (with_reducible refine fms_172 (by assumption) ?_) | (with_reducible refine fms_179 (by assumption) ?_) | (with_reducible refine fms_164 hn hS (by assumption) (fun _ _ => ?_)) | (with_reducible refine fms_196 (by assumption) ?_) | (with_reducible refine fms_195 hS (by assumption) ?_) | (with_reducible refine fms_182 hS (by assumption) (fun _ _ => ?_)) | (with_reducible refine fms_189 (by assumption) ?_) | (with_reducible refine fms_190 (by assumption) ?_) | (with_reducible refine fms_178 (by assumption) ?_) | (with_reducible refine fms_I (by assumption) hy ?_ (fun _ => ?_)) | (with_reducible refine fw_z ?_) | (with_reducible refine fw_i1 rfl ?_) | (with_reducible refine fw_i1 (by assumption) ?_) | (with_reducible refine fw_i0 (by assumption) ?_) | (refine fw_i0 (by decide) ?_) | (refine fw_i1 (by decide) ?_) | (omega) | (decide))
      obtain ⟨⟨ev, ew⟩, q8, nd8, cd8, us8, es8, na8, nb8, ⟨k5, k6, k7, k8⟩, hR8, ⟨hLC8, hLM8⟩, hD8⟩ := hA7
      have ev : v7 = nI nb4 := ev
      have ew : w7 = nI nb4 := ew
      subst ev
      subst ew
      replace hR8 := back _ _ _ _ _ _ _ _ _ _ _ hR8
      have hLC8 : LC x K na4 nb4 cd4 s6 s7 := hLC8
      have hLM8 : LM y na4 nb4 t6 t7 := hLM8
      refine Rs_A (a := sI s7 (x + 22) r (nI nb4)) (b := sI t7 (y + 24) r (nI nb4)) rfl rfl ?_
      have hR9 : SR U len x y s0 t0 K np tz G bl (4 * na8) q8 dp nd8 cd8 us8 es8 na8 nb8 (sI s7 (x + 22) r (nI nb4)) (sI t7 (y + 24) r (nI nb4)) := SR_wM hS (by omega) (SR_wC hS (by omega) hR8)
      have hF9 := SF_m (j := 9) (v := nI nb4) (by omega) (by omega) (by omega) (SF_c (j := 2) (v := nI nb4) (by omega) (SF_LL hF6 hLC8 hLM8 (by omega)))
      have hLC68 := LC_tr hLC6 hLC8 (Nat.le_refl _) (Nat.le_refl _) (Nat.le_refl _)
      have hLM68 := LM_tr hLM6 hLM8 (Nat.le_refl _) (Nat.le_refl _)
      have hLC9 : LC x K r nb cd sS (sI s7 (x + 22) r (nI nb4)) := LC_tr (LC_tr hLC5 hLC68 (by omega) (by omega) (by omega)) (LC_w (na := r) (nb := nb) (cd := cd) hx (by omega)) (by omega) (by omega) (by omega)
      have hLM9 : LM y r nb tS (sI t7 (y + 24) r (nI nb4)) := LM_tr (LM_tr hLM5 hLM68 (by omega) (by omega)) (LM_w (na := r) (nb := nb) hy (by omega)) (by omega) (by omega)
      refine br_fin (cs := uN cs 1 cd2) (el := True) (nb3 := nb4) hS hG (Or.inl ⟨rfl, rfl⟩) hbl hR9 ⟨by omega, by omega, by omega, by omega⟩ hLC9 hLM9 hF9 ⟨rfl, rfl, rfl, rfl, rfl, rfl, rfl, rfl⟩ (fun hK => ⟨(hX5 hK).1, by rw [(hX5 hK).2.1]; omega, by rw [(hX5 hK).2.1]; rfl, XE_fr (hX5 hK).2.2 (fun p hp => ?_)⟩) (Or.inr ⟨trivial, rfl, by omega, rfl, rfl⟩) (fun hK hm Gc hCP => ?_)
      · rw [(hX5 hK).2.1] at hp
        have h8 := hLC68.2.2.2.2.2.2.2 hK p (by omega)
        rw [hIo (by omega), hIo (by omega)] at h8
        rw [hIo (by omega), hIo (by omega), hIo (by omega), hIo (by omega)]; exact h8
      · have hm7 : s7.1 1004 12 = -1 := by rw [← hm]; exact (hIx (by omega)).symm
        have hm5 := hLC68.2.2.2.2.1 hm7
        obtain ⟨G1, g1, ⟨g2, g3⟩, ⟨g4, g5⟩, -, hP1, hKK1⟩ := hI5 hK hm5 Gc hCP
        have hCP1 : CP G G1 bl := CP_X hCP g1 hbl
        obtain ⟨Gn, n1, n2, n3, n4, n5⟩ := br_in (nb := nb4) (kd := 2) (kk := 5) (Or.inl ⟨rfl, rfl⟩) (by omega) hCP1 g2 g3 (h4 hK)
        have n3' : dH Gn na4 (nb4 + 1) nb4 := by
          obtain ⟨e1, e2, e3, e4, e5⟩ := n3
          exact ⟨e1, e2, fun e => ⟨by have := (e3 e).1; omega, (e3 e).2⟩, e4, e5⟩
        obtain ⟨G', hX', hP2, hKK2⟩ := hD8 hK hm7 Gn n2 n3'
        have hX2 : GX G1 G' na4 nb4 := GX_tr (n1 na4) hX' (by omega) (by omega)
        have hP3 := PD_mv hP1 (Fut_L hK hX2 hLC68 hLM68 (Nat.le_refl _) (Nat.le_refl _) (Nat.le_refl _))
        have hP4 := PD_join (er := na8) (eb := nb8) hP3 hP2 (by omega) (by omega) (by omega) (by omega) (by omega) (by omega) (by omega)
        refine ⟨G', GX_tr g1 hX2 (by omega) (by omega), ⟨?_, ?_⟩, ⟨?_, ?_⟩, fun _ => ⟨?_, ?_⟩, PD_mv hP4 (Fut_wr (j := 2) (i := 9) (by omega) (by omega)), fun b p1 p2 => ?_⟩
        · rw [(hX2.2.1 r (by omega)).1]; exact g2
        · rw [(hX2.2.1 r (by omega)).2]; exact g3
        · rw [(hX2.2.2 nb (by omega)).1]; exact g4
        · rw [(hX2.2.2 nb (by omega)).2.1]; exact g5
        · rw [(hX'.2.2 nb4 (by omega)).1]; exact n4
        · rw [(hX'.2.2 nb4 (by omega)).2.1]; exact n5
        · by_cases e1 : b < nb4
          · rw [(hX2.2.2 b e1).1]; exact hKK1 b p1 e1
          · by_cases e2 : b = nb4
            · rw [e2, (hX'.2.2 nb4 (by omega)).1, n4]; omega
            · exact hKK2 b (by omega) p2
    · rw [zone_0 e140, if_pos rfl] at H4 ⊢
      have ec : f39 n 140 (sI s4 (x + 21) r (nI nb)) = some (0, sI s4 (x + 21) r (nI nb)) := by
        unfold f39
        rw [ER_k hR5.1, if_neg e140]
      rw [ec, yb1_s, if_pos rfl]
      exact Rs_A rfl rfl hend
  · rw [if_neg (show ¬ (if (6 : Nat) = 5 then (0 : Int32) else 1) = 0 by decide), if_neg (show ¬ nI 6 = 5 by decide)]
    exact Rs_A rfl rfl hend
end ZQI
