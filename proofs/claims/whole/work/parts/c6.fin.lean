/-! a statement begins and ends -/
section ZQE
/-- what is fixed of the ghosts -/
def HG (K y : Nat) (tz : zσ) (G : Nat → Nat → Nat) : Prop := K = 1 → tz.1 y 16 = nI (G 0 0) ∧ tz.1 y 13 = nI (G 0 1) ∧ G 0 0 ≤ 200 ∧ G 0 1 ≤ 2000 ∧ (∀ p, p < G 6 7 → tz.1 (y + 11) p = nI (G 12 p) ∧ G 12 p ≤ 3)
/-- blocks of ifs, whiles and reactions -/
def GK (lo hi : Nat) (G : Nat → Nat → Nat) : Prop := ∀ b, lo ≤ b → b < hi → 2 ≤ G 2 b
/-- what comes of a statement -/
def SA (U : Nat → Nat) (len x y : Nat) (s0 t0 : zσ) (K np : Nat) (tz : zσ) (G : Nat → Nat → Nat) (bl q dp na nb cd : Nat) (s t : zσ) (a b : Int32 × zσ) : Prop := (a.1 = nI na ∧ b.1 = nI na) ∧ ∃ q2 nd2 cd2 us2 es2 na2 nb2, (q + 1 ≤ q2 ∧ na + 1 ≤ na2 ∧ nb ≤ nb2 ∧ cd ≤ cd2) ∧ SR U len x y s0 t0 K np tz G bl (4 * na2) q2 dp nd2 cd2 us2 es2 na2 nb2 a.2 b.2 ∧ (LC x K na nb cd s a.2 ∧ LM y na nb t b.2) ∧ (a.2.1 (x + 25) na = -1 ∧ b.2.1 (y + 16) na = -1) ∧ (K = 1 → a.2.1 1004 12 = -1 → ∀ Gc, CP G Gc bl → ∃ G', GX Gc G' na nb ∧ G' 1 na = bl ∧ PD x y na na2 nb nb2 cd2 na nb2 tz G' a.2 b.2 ∧ GK nb nb2 G')
variable {U : Nat → Nat} {len x y n K np bl ub q dp nd cd us es na nb q2 dp2 nd2 cd2 us2 r nb0 cd0 mE na2 nb2 : Nat} {s0 t0 tz s t s2 t2 s3 t3 sS tS : zσ} {G G2 G3 : Nat → Nat → Nat} {c m L E : Nat → Int32} {cs : Nat → Nat}
theorem SR_nb (h : SR U len x y s0 t0 K np tz G bl ub q dp nd cd us es na nb s t) (hG : HG K y tz G) (hK : K = 1) (hn : nb ≤ 2000) : nb ≤ G 0 1 ∧ na ≤ G 0 0 := by
  obtain ⟨g1, g2, g3, g4, -⟩ := hG hK
  have hL := (h.1.2.2.2.2.2.2.2 hK).1
  obtain ⟨nb', nz, a1, a2, a3, a4⟩ := hL.2.2.2.2.2.1
  obtain ⟨na', nz', b1, b2, b3, b4⟩ := hL.2.2.2.2.1
  have n3 := h.2.1.2.2
  have e1 : nb' = nb := (nI_eq (by omega) (by omega)).mp (a1.symm.trans h.2.2.1.2.1)
  have e2 : nz = G 0 1 := (nI_eq (by omega) (by omega)).mp (a2.symm.trans g2)
  have e3 : na' = na := (nI_eq (by omega) (by omega)).mp (b1.symm.trans h.2.1.2.1)
  have e4 : nz' = G 0 0 := (nI_eq (by omega) (by omega)).mp (b2.symm.trans g1)
  omega
def Gst (G : Nat → Nat → Nat) (r bl kk : Nat) : Nat → Nat → Nat := fun f k => if f = 1 ∧ k = r then bl else if f = 10 ∧ k = r then kk else G f k
theorem Gst_X {kk : Nat} : GX G (Gst G r bl kk) r nb := by
  refine ⟨fun k => ⟨?_, ?_, ?_, ?_⟩, fun i hi => ⟨?_, ?_⟩, fun b _ => ⟨?_, ?_, ?_, ?_, ?_⟩⟩
  all_goals (unfold Gst; rw [if_neg (by omega), if_neg (by omega)])
theorem Gst_1 {kk : Nat} : (Gst G r bl kk) 1 r = bl ∧ (Gst G r bl kk) 10 r = kk := by
  constructor
  · unfold Gst; rw [if_pos ⟨rfl, rfl⟩]
  · unfold Gst; rw [if_neg (by omega), if_pos ⟨rfl, rfl⟩]
theorem fm_215 {g : zσ → Option (Int32 × zσ)} {f z : Nat} {x3 w : Int32} (h3 : ¬ x3 = 5 ∧ ¬ x3 = 6) (h : FM len y t0 f z t) : fw (fun p => FM len y t0 f z p.2) (f184_215 n g x3 w t) := by
  unfold f184_215
  rw [if_neg h3.1, if_neg h3.2]
  exact fms_179 h ⟨_, rfl, h⟩
theorem lb215 {g : zσ → Option (Int32 × zσ)} {x3 w : Int32} (hy : y = 1134 ∨ y = 1170) (t : zσ) : bk (fun u => u.2) (LR np y tz) (f184_215 n g x3 w t) t := by
  unfold f184_215
  repeat' (first | (with_reducible exact b195 hy) | (with_reducible exact b164 hy) | (with_reducible exact b196 hy) | (with_reducible exact b182 hy) | (with_reducible exact b179 hy) | (with_reducible exact b172 hy) | (with_reducible exact b173 hy (by decide)) | (with_reducible exact b189 hn hy) | (with_reducible exact b190 hn hy _) | (with_reducible exact b178 hy) | (with_reducible exact bk_none) | (with_reducible exact bk_some LR_rf) | (with_reducible refine bk_ite (fun _ => ?_) (fun _ => ?_)) | (with_reducible refine bk_rdL ?_) | (with_reducible refine bk_zS LR_tr (LR_I ?_ ?_ ?_ ?_) ?_) | (with_reducible refine bk_zS LR_tr (LR_J ?_ ?_) ?_) | (with_reducible refine bk_zV ?_) | (with_reducible refine bk_y0 LR_tr ?_ (fun _ => ?_)) | (with_reducible refine bk_y1 LR_tr ?_ (fun _ _ => ?_)) | (with_reducible exact bk_pu pu_167 _) | (with_reducible exact bk_pu pu_177 _) | (with_reducible refine bk_pu (pu_170 hn ?_) _) | (with_reducible exact bk_pu (pu_175 hn) _) | (omega) | (decide))
theorem fin_ok {g : Int32 → Int32 → zσ → Option (Int32 × zσ)} {g2 : zσ → Option (Int32 × zσ)} {x3 : Int32} (hQ : HQ n U len x y s0 t0 K tz G ub) (hG : HG K y tz G) (hr : r < 200) (h3 : ¬ x3 = 5 ∧ ¬ x3 = 6) (hbl : bl < nb) {a b : zσ} (h : BO U len x y s0 t0 K np tz G bl r nb cd sS tS q dp nb a b) (H : Hb (fun u => u.2) K np y tz (f184_215 n g2 x3 (nI r) b)) : Rs (fun f z p => FC len x s0 f z p.2) (fun f z p => FM len y t0 f z p.2) (ZB K y tz) (SA U len x y s0 t0 K np tz G bl q dp r nb cd sS tS) (f46_166 n g (nI r) a) (f184_215 n g2 x3 (nI r) b) := by
  obtain ⟨hn, hS, -⟩ := id hQ
  have hx := hS.1
  have hy := hS.2.1
  obtain ⟨hz, hnx, -⟩ := r4 (r := r) (i := 0) hr (by omega)
  obtain ⟨kk, ub2, q2, nd2, cd2, us2, es2, c, m, L, E, mE, cs, hT, ⟨b1, b2, b3, b4, b5, b6⟩, ⟨c1, c2, c3, c4, c5, c6⟩, hO⟩ := h
  have hE := hT.1.1
  unfold f184_215 at H ⊢
  rw [if_neg h3.1, if_neg h3.2] at H ⊢
  unfold f46_166
  rw [ER_5 hS hE, grd (gck9 hx).2.1, grd (gck9 hx).2.1, if_pos hz, hnx, hE.2.2.2.2.2.1.1]
  refine Rs_zc ?_
  have h2 := ST_wC (j := 4) (v := nI cd2) hS (by omega) hT
  refine st00 H (ER_y hS hE) (b179 hy) (fun u => bk_some LR_rf) (st_want (k := 59) hn hS (by decide) (by decide) h2) (fun f z u hF => fw_some hF) (fun f z u hM => fw_some hM) (fun s3 t3 hA H3 => ?_)
  obtain ⟨⟨hql, -⟩, h4, hSC⟩ := hA
  have hgt := tkNx_gt (U := U) hql
  obtain ⟨hR, hF, ⟨hLC, hLM, l1, l2⟩, hX⟩ := id h4
  have hcn := hR.1.2.2.2.2.2.1.2.2
  have hnn := hR.1.2.2.2.2.1.2.2
  have hlen := (ER_q hR.1)
  have hdp := hR.1.2.2.2.1.2.2
  have hnb := hR.2.2.1.2.2
  refine Rs_A rfl rfl ⟨⟨rfl, rfl⟩, _, nd2, cd2, us2, es2, r + 1, nb, ⟨by omega, by omega, by omega, l1⟩, SR_ub hR (by omega), ⟨hLC, hLM⟩, ⟨?_, ?_⟩, fun hK hm Gc hCP => ?_⟩
  · have := hF.1 5 (by omega)
    rw [show x + 20 + 5 = x + 25 by omega] at this
    rw [this]; exact c4
  · have := hF.2.1 1 (by omega) (by omega) (by omega)
    rw [show y + 15 + 1 = y + 16 by omega] at this
    rw [this]; exact c6
  · have hna := SR_nb hR hG hK (by omega)
    refine ⟨Gst Gc r bl kk, Gst_X, Gst_1.1, fun G2 s' t' hf => ?_, fun b p1 p2 => absurd p1 (by omega)⟩
    obtain ⟨f1, f2, f3, f4⟩ := hf
    have hCP2 : CP G G2 bl := CP_X (CP_X hCP (Gst_X (nb := nb)) hbl) f1 hbl
    have g1 : G2 1 r = bl := ((f1.2.1 r (by omega)).1).trans Gst_1.1
    have g10 : G2 10 r = kk := ((f1.2.1 r (by omega)).2).trans Gst_1.2
    obtain ⟨x1, x2, x3⟩ := hX hK
    have hFS := (f2 r (by omega) (by omega)).1
    refine ⟨fun r' e1 e2 => ?_, fun b' e1 e2 => by omega⟩
    have e : r' = r := by omega
    subst e
    refine ⟨⟨⟨?_, ?_, ?_, ?_⟩, ?_⟩, fun e => absurd rfl e⟩
    · rw [g1, (hCP2.1 1).1]; omega
    · rw [g1]
      have e1 := hFS.1 6 (by omega) (by omega)
      have e2 := hF.1 6 (by omega)
      rw [show x + 20 + 6 = x + 26 by omega] at e1 e2
      rw [e1, e2]; exact c5
    · rw [g10]
      have e1 := hFS.1 0 (by omega) (by omega)
      have e2 := hF.1 0 (by omega)
      rw [show x + 20 + 0 = x + 20 by omega] at e1 e2
      rw [e1, e2]; exact c1
    · rw [g10, hyb_t (by omega)]
      have e1 := hFS.2.1 0 (by omega) (by omega) (by omega) (by omega)
      have e2 := hF.2.1 0 (by omega) (by omega) (by omega)
      rw [show y + 15 + 0 = y + 15 by omega] at e1 e2
      rw [e1, e2]; exact c2
    · have hm2 : a.1 1004 12 = -1 := by
        have e := hSC.1.2.2.2.1 12 (by decide) (by decide) (by decide)
        have hm' : s3.1 1004 12 = -1 := hm
        rw [hm', hIo (by omega)] at e
        exact e.symm
      refine OD_h (kk := kk) hCP2 g1 g10 hF hFS (by omega) ?_ ?_ (fun p hp => f4 p (by omega)) x3 (fun p hp => ((hG hK).2.2.2.2 p hp).2) (hO hK hm2)
      · show c 3 = _
        rw [c3, x2]
      · show nI cd2 = _
        rw [x1]
end ZQE
