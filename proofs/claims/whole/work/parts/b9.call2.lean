/-! statements, both readers: a call, its loop -/
section ZPX
variable {U : Nat → Nat} {len x y n K np bl ub q dp nd cd us es na nb q2 dp2 nd2 cd2 us2 r nb0 cd0 mE na2 nb2 : Nat} {s0 t0 tz s t s2 t2 s3 t3 sS tS : zσ} {G : Nat → Nat → Nat} {c m L E : Nat → Int32} {cs : Nat → Nat}
theorem lb199 (hn : 5000 ≤ n) (hy : y = 1134 ∨ y = 1170) {v : Int32} : ∀ (j : Nat) (a b c : Int32) (t : zσ), bk (fun u => u) (LR np y tz) (f199_51 n j v y a b c t) t
  | 0, _, _, _, _ => bk_none
  | j + 1, a, b, c, t => by
    unfold f199_51 f199_132 f199_133 f199_77
    repeat' (first | (with_reducible exact lb199 hn hy j _ _ _ _) | (with_reducible refine b173 hy ?_) | (with_reducible exact bk_pu (pu_200 hn) _) | (with_reducible exact b195 hy) | (with_reducible exact b164 hy) | (with_reducible exact b196 hy) | (with_reducible exact b182 hy) | (with_reducible exact b179 hy) | (with_reducible exact b172 hy) | (with_reducible exact b173 hy (by decide)) | (with_reducible exact b189 hn hy) | (with_reducible exact b190 hn hy _) | (with_reducible exact b178 hy) | (with_reducible exact bk_none) | (with_reducible exact bk_some LR_rf) | (with_reducible refine bk_ite (fun _ => ?_) (fun _ => ?_)) | (with_reducible refine bk_rdL ?_) | (with_reducible refine bk_zS LR_tr (LR_I ?_ ?_ ?_ ?_) ?_) | (with_reducible refine bk_zS LR_tr (LR_J ?_ ?_) ?_) | (with_reducible refine bk_zV ?_) | (with_reducible refine bk_y0 LR_tr ?_ (fun _ => ?_)) | (with_reducible refine bk_y1 LR_tr ?_ (fun _ _ => ?_)) | (with_reducible exact bk_pu pu_167 _) | (with_reducible exact bk_pu pu_177 _) | (with_reducible refine bk_pu (pu_170 hn ?_) _) | (with_reducible exact bk_pu (pu_175 hn) _) | (omega) | (decide))
theorem lm199 {f z j : Nat} {a b : Int32} (hn : 5000 ≤ n) (hS : S0 U len x y s0 t0) (hz : zin? (nI r) 200 = true) (h : FM len y t0 f z t) : fw (FM len y t0 f z) (f199_51 n (j + 1) (nI r) y a b 0 t) := by
  have hy := hS.2.1
  unfold f199_51
  repeat' (first | (with_reducible assumption) | (with_reducible refine fw_some ?_) | (with_reducible exact ⟨rfl, by assumption⟩) | (with_reducible refine fms_rd hS (by assumption) ?_) | (with_reducible refine fms_167 (by assumption) ?_) | (with_reducible refine fms_173 (by assumption) ?_) | (with_reducible refine fms_172 (by assumption) ?_) | (with_reducible refine fms_179 (by assumption) ?_) | (with_reducible refine fms_164 hn hS (by assumption) (fun _ _ => ?_)) | (with_reducible refine fms_196 (by assumption) ?_) | (with_reducible refine fms_195 hS (by assumption) ?_) | (with_reducible refine fms_182 hS (by assumption) (fun _ _ => ?_)) | (with_reducible refine fms_189 (by assumption) ?_) | (with_reducible refine fms_190 (by assumption) ?_) | (with_reducible refine fms_178 (by assumption) ?_) | (with_reducible refine fms_I (by assumption) hy ?_ (fun _ => ?_)) | (with_reducible refine fw_z ?_) | (with_reducible refine fw_i1 rfl ?_) | (with_reducible refine fw_i1 (by assumption) ?_) | (with_reducible refine fw_i0 (by assumption) ?_) | (refine fw_i0 (by decide) ?_) | (refine fw_i1 (by decide) ?_) | (omega) | (decide))
theorem r4 {i : Nat} (hr : r < 200) (hi : i < 4) : zin? (nI r) 200 = true ∧ nx (nI r) = r ∧ (4 : Int32) * nI r = nI (4 * r) ∧ nI (4 * r) + nI i = nI (4 * r + i) ∧ zin? (nI (4 * r + i)) 800 = true ∧ nx (nI (4 * r + i)) = 4 * r + i :=
  ⟨zin_nI hr (by decide), nx_nI (by omega), nLmul r 4, naddN _ _, zin_nI (by omega) (by decide), nx_nI (by omega)⟩
/-- what comes of a call -/
def CO (U : Nat → Nat) (len x y : Nat) (s0 t0 : zσ) (K np : Nat) (tz : zσ) (G : Nat → Nat → Nat) (bl r nb0 cd0 : Nat) (sS tS : zσ) (ub q dp nb : Nat) (c m L : Nat → Int32) (v3 : Int32) (a b : zσ) : Prop := ∃ q2 nd2 cd2 us2 es2 i E2 cs2, q ≤ q2 ∧ i ≤ 3 ∧ ST U len x y s0 t0 K np tz G bl r nb0 cd0 sS tS ub q2 dp nd2 cd2 us2 es2 nb (uf c 2 v3) (uf m 5 (nI i)) L E2 i cs2 a b ∧ (K = 1 → ∃ p, p < G 6 7 ∧ v3 = nI p ∧ (a.1 1004 12 = -1 → tz.1 (y + 11) p = nI i))
theorem call_L {uu zz : Nat} {v3 : Int32} (hQ : HQ n U len x y s0 t0 K tz G ub) (hr : r < 200) (hu4 : uu < 1400) (hzz : zz < 2 ^ 31) (hv : K = 0 → v3 = 0) (hp : K = 1 → ∃ p, p < G 6 7 ∧ v3 = nI p ∧ (zso tz y uu).2 = nI p ∧ tz.1 (y + 30) uu = nI zz) : ∀ (d i q nd cd us es j j2 : Nat) (E : Nat → Int32) (cs : Nat → Nat) (s t : zσ) (mo : Int32), i + d = 3 → d + 2 < j → d + 2 < j2 → (mo = 0 ∨ mo = 1) → ST U len x y s0 t0 K np tz G bl r nb0 cd0 sS tS ub q dp nd cd us es nb c m L E i cs s t → uu < us → t.1 (y + 35) uu = -1 → (∀ u, uu < u → u < us → t.1 (y + 35) u = -1) → Hb (fun u => u) K np y tz (f199_51 n j2 (nI r) y (nI uu) (nI i) mo t) → Rs (FC len x s0) (FM len y t0) (ZB K y tz) (CO U len x y s0 t0 K np tz G bl r nb0 cd0 sS tS ub q dp nb c m L v3) (f64_46 n j (nI r) (nI zz) v3 (nI i) mo (nI i) s) (f199_51 n j2 (nI r) y (nI uu) (nI i) mo t) := by
  obtain ⟨hn, hS, -, -, -, hK01, h67⟩ := id hQ
  have hx := hS.1
  have hy := hS.2.1
  intro d
  induction d with
  | zero =>
    intro i q nd cd us es j j2 E cs s t mo hd hj hj2 hmo h hu ha hb H
    obtain ⟨j, rfl⟩ : ∃ j0, j = j0 + 2 := ⟨j - 2, by omega⟩
    obtain ⟨j2, rfl⟩ : ∃ j0, j2 = j0 + 2 := ⟨j2 - 2, by omega⟩
    rcases hmo with hmo | hmo
    · subst hmo
      have hi : i ≤ 3 := by omega
      have hz := (r4 (i := 0) hr (by omega)).1
      have hnx := (r4 (i := 0) hr (by omega)).2.1
      have hzu : zin? (nI uu) 1400 = true := zin_nI hu4 (by decide)
      have em : ∀ j, f199_51 n (j + 1) (nI r) y (nI uu) (nI i) 0 t = yb0 (f179 n (41 : Int32) t) fun u1 => zlet (sI u1 (y + 20) r (nI i)) fun u2 => yb1 (f167 n u2) fun v4 u3 => if v4 = (0 : Int32) then some u3 else zlet (sI u3 (y + 35) uu (nI i)) fun u5 => some u5 := fun j => by
        rw [f199_51, if_pos rfl]
        simp only [if_pos hz, hnx, if_pos hzu, nx_nI (show uu < 2 ^ 31 by omega)]
      have ec : f64_46 n (j + 2) (nI r) (nI zz) v3 (nI i) 0 (nI i) s = f64_103 n (nI r) (nI zz) v3 (nI i) s := by
        rw [f64_46, if_pos rfl]
      have hv3 : v3 = -1 ∨ zin? v3 6 = true := by
        by_cases k0 : K = 0
        · rw [hv k0]; exact Or.inr (by decide)
        · obtain ⟨p, p1, p2, -⟩ := hp (by omega)
          have := h67 (by omega)
          rw [p2]; exact Or.inr (zin_nI (by omega) (by decide))
      rw [em] at H ⊢
      rw [ec]
      unfold f64_103
      refine st00 H (ER_y hS h.1.1) (b179 hy) (fun u => ?_) (st_want (k := 41) hn hS (by decide) (by decide) h) (fun f z u hF => ?_) (fun f z u hM => ?_) (fun a b hab H2 => ?_)
      · repeat' (first | (with_reducible exact b195 hy) | (with_reducible exact b164 hy) | (with_reducible exact b196 hy) | (with_reducible exact b182 hy) | (with_reducible exact b179 hy) | (with_reducible exact b172 hy) | (with_reducible exact b173 hy (by decide)) | (with_reducible exact b189 hn hy) | (with_reducible exact b190 hn hy _) | (with_reducible exact b178 hy) | (with_reducible exact bk_none) | (with_reducible exact bk_some LR_rf) | (with_reducible refine bk_ite (fun _ => ?_) (fun _ => ?_)) | (with_reducible refine bk_rdL ?_) | (with_reducible refine bk_zS LR_tr (LR_I ?_ ?_ ?_ ?_) ?_) | (with_reducible refine bk_zS LR_tr (LR_J ?_ ?_) ?_) | (with_reducible refine bk_zV ?_) | (with_reducible refine bk_y0 LR_tr ?_ (fun _ => ?_)) | (with_reducible refine bk_y1 LR_tr ?_ (fun _ _ => ?_)) | (with_reducible exact bk_pu pu_167 _) | (with_reducible exact bk_pu pu_177 _) | (with_reducible refine bk_pu (pu_170 hn ?_) _) | (with_reducible exact bk_pu (pu_175 hn) _) | (omega) | (decide))
      · have := fc_64_103 (a := nI r) (b := nI zz) (c := v3) (d := nI i) hn hS hz hv3 hF
        unfold f64_103 at this
        rw [c_want0 (by decide) (fc_4 hF), yb0_s] at this
        exact this
      · repeat' (first | (with_reducible assumption) | (with_reducible refine fw_some ?_) | (with_reducible exact ⟨rfl, by assumption⟩) | (with_reducible refine fms_rd hS (by assumption) ?_) | (with_reducible refine fms_167 (by assumption) ?_) | (with_reducible refine fms_173 (by assumption) ?_) | (with_reducible refine fms_172 (by assumption) ?_) | (with_reducible refine fms_179 (by assumption) ?_) | (with_reducible refine fms_164 hn hS (by assumption) (fun _ _ => ?_)) | (with_reducible refine fms_196 (by assumption) ?_) | (with_reducible refine fms_195 hS (by assumption) ?_) | (with_reducible refine fms_182 hS (by assumption) (fun _ _ => ?_)) | (with_reducible refine fms_189 (by assumption) ?_) | (with_reducible refine fms_190 (by assumption) ?_) | (with_reducible refine fms_178 (by assumption) ?_) | (with_reducible refine fms_I (by assumption) hy ?_ (fun _ => ?_)) | (with_reducible refine fw_z ?_) | (with_reducible refine fw_i1 rfl ?_) | (with_reducible refine fw_i1 (by assumption) ?_) | (with_reducible refine fw_i0 (by assumption) ?_) | (refine fw_i0 (by decide) ?_) | (refine fw_i1 (by decide) ?_) | (omega) | (decide))
      obtain ⟨⟨hql, -⟩, hA, hSC⟩ := hab
      have hgt := tkNx_gt (U := U) hql
      have hE2 := hA.1.1
      have hA2 := ST_wM (j := 5) (v := nI i) hS (by omega) (by omega) (by omega) (ST_wC (j := 2) (v := v3) hS (by omega) hA)
      have e35 : ∀ u, u < us → b.1 (y + 35) u = t.1 (y + 35) u := hSC.2.2.2.1
      rw [ER_5 hS hE2, grd (gck9 hx).2.1, if_pos hz, hnx]
      refine Rs_zm (Rs_zc ?_)
      replace H2 := Hb_z H2
      rw [m_goes (show (sI b (y + 20) r (nI i)).1 1132 9 = 0 from hA2.1.1.2.1.2.2), yb1_s, if_neg n10]
      refine Rs_zm ?_
      have k7 : (sI a (x + 22) r v3).1 1004 7 = nI K := hA2.1.1.2.2.1
      show Rs _ _ _ _ (if (sI a (x + 22) r v3).1 1004 7 = 0 then some (sI a (x + 22) r v3) else if (sI a (x + 22) r v3).1 1004 12 = -1 then if v3 = -1 then some (sI a (x + 22) r v3) else zrd 9 ((sI a (x + 22) r v3).2.2 1004 4) fun a4 => if zin? v3 6 = true then if nI i = (sI a (x + 22) r v3).1 (a4 + 18) (nx v3) then some (sI a (x + 22) r v3) else zlet (sI (sI a (x + 22) r v3) 1004 12 (nI zz)) fun u5 => some u5 else none else some (sI a (x + 22) r v3)) (some (sI (sI b (y + 20) r (nI i)) (y + 35) uu (nI i)))
      rw [k7]
      have hau : (sI b (y + 20) r (nI i)).1 (y + 35) uu = -1 := by rw [hIo (by omega), e35 uu hu]; exact ha
      have hbu : ∀ u, uu < u → u < us → (sI b (y + 20) r (nI i)).1 (y + 35) u = -1 := fun u e1 e2 => by rw [hIo (by omega), e35 u e2]; exact hb u e1 e2
      by_cases k0 : K = 0
      · rw [if_pos (by rw [k0]; rfl)]
        have := ST_mis (p := 0) (v3 := 0) (uu := uu) (i := i) hQ hA2 hu hi hau hbu _ (Or.inl ⟨k0, rfl⟩)
        exact Rs_A rfl rfl ⟨_, nd, cd, us, es, i, E, cs, by omega, hi, this.1, fun e => by omega⟩
      · have k1 : K = 1 := by omega
        obtain ⟨p, p1, p2, p3, p4⟩ := hp k1
        have hp6 : p < 6 := by have := h67 k1; omega
        subst p2
        have hne : ¬ nI p = -1 := fun e => (neqM (by omega)).mp e
        rw [if_neg (by rw [k1]; decide)]
        by_cases hm : (sI a (x + 22) r (nI p)).1 1004 12 = -1
        · rw [if_pos hm, if_neg hne, (BC_rf hS hA2.1.1.1.1).1, grd (gck9 hx).1, if_pos (zin_nI (show p < 6 from hp6) (by decide)), nx_nI (show p < 2 ^ 31 by omega)]
          by_cases he : nI i = (sI a (x + 22) r (nI p)).1 (x + 18) p
          · rw [if_pos he]
            have := ST_mis (p := p) (v3 := nI p) (uu := uu) (i := i) hQ hA2 hu hi hau hbu _ (Or.inr ⟨k1, p1, rfl, p3, Or.inr (Or.inl ⟨hm, he, rfl⟩)⟩)
            exact Rs_A rfl rfl ⟨_, nd, cd, us, es, i, E, cs, by omega, hi, this.1, fun _ => ⟨p, p1, rfl, this.2 k1⟩⟩
          · rw [if_neg he]
            have := ST_mis (p := p) (v3 := nI p) (uu := uu) (i := i) hQ hA2 hu hi hau hbu _ (Or.inr ⟨k1, p1, rfl, p3, Or.inr (Or.inr ⟨hm, he, zz, hzz, p4, rfl⟩)⟩)
            exact Rs_A rfl rfl ⟨_, nd, cd, us, es, i, E, cs, by omega, hi, this.1, fun _ => ⟨p, p1, rfl, this.2 k1⟩⟩
        · rw [if_neg hm]
          have := ST_mis (p := p) (v3 := nI p) (uu := uu) (i := i) hQ hA2 hu hi hau hbu _ (Or.inr ⟨k1, p1, rfl, p3, Or.inl ⟨hm, rfl⟩⟩)
          exact Rs_A rfl rfl ⟨_, nd, cd, us, es, i, E, cs, by omega, hi, this.1, fun _ => ⟨p, p1, rfl, this.2 k1⟩⟩
    · subst hmo
      have hi3 : i = 3 := by omega
      subst hi3
      have hE := h.1.1
      obtain ⟨hq, hU, -⟩ := ER_q hE
      have em0 : tkKind U len q = 0 → f199_51 n (j2 + 2) (nI r) y (nI uu) (nI 3) 1 t = f199_77 n t := fun h0 => by
        rw [f199_51, if_neg (by decide), if_pos (show nI 3 = 3 from rfl), if_pos ((tm_kind hE.2.1.2.1).1.mpr h0)]
      have em1 : ¬ tkKind U len q = 0 → bgn (tkKind U len q) → f199_51 n (j2 + 2) (nI r) y (nI uu) (nI 3) 1 t = yb0 (f173 n (3 : Int32) (t.1 1132 4) t) fun u15 => some u15 := fun h0 hb => by
        rw [f199_51, if_neg (by decide), if_pos (show nI 3 = 3 from rfl), if_neg (fun e => h0 ((tm_kind hE.2.1.2.1).1.mp e)), (m_200 hn hE).1 hb]; rfl
      have em2 : ¬ tkKind U len q = 0 → ¬ bgn (tkKind U len q) → f199_51 n (j2 + 2) (nI r) y (nI uu) (nI 3) 1 t = f199_77 n t := fun h0 hb => by
        rw [f199_51, if_neg (by decide), if_pos (show nI 3 = 3 from rfl), if_neg (fun e => h0 ((tm_kind hE.2.1.2.1).1.mp e)), (m_200 hn hE).2 hb]; rfl
      have ec1 : bgn (tkKind U len q) → f64_46 n (j + 2) (nI r) (nI zz) v3 (nI 3) 1 (nI 3) s = yb1 (f32 n (3 : Int32) s) fun v4 u3 => f64_82 n (f64_46 n (j + 1)) (nI r) (nI zz) v3 (nI 3) (nI 3) u3 := fun hb => by
        rw [f64_46, if_neg (by decide), if_neg (by decide), if_pos (show nI 3 = 3 from rfl), (c_65 hE).1 hb]; rfl
      have ec2 : ¬ bgn (tkKind U len q) → f64_46 n (j + 2) (nI r) (nI zz) v3 (nI 3) 1 (nI 3) s = f64_82 n (f64_46 n (j + 1)) (nI r) (nI zz) v3 (nI 3) (nI 3) s := fun hb => by
        rw [f64_46, if_neg (by decide), if_neg (by decide), if_pos (show nI 3 = 3 from rfl), (c_65 hE).2 hb]; rfl
      have hv3 : v3 = -1 ∨ zin? v3 6 = true := by
        by_cases k0 : K = 0
        · rw [hv k0]; exact Or.inr (by decide)
        · obtain ⟨p, p1, p2, -⟩ := hp (by omega)
          have := h67 (by omega)
          rw [p2]; exact Or.inr (zin_nI (by omega) (by decide))
      have h82 : ∀ f z u, FC len x s0 f z u → fw (FC len x s0 f z) (f64_82 n (f64_46 n (j + 1)) (nI r) (nI zz) v3 (nI 3) (nI 3) u) := fun f z u hu => by
        unfold f64_82
        refine fcs_49 hn hS hu (fun u2 hu2 => fcs_39 hu2 (by decide) ?_)
        unfold f64_46
        rw [if_pos rfl]
        exact fc_64_103 hn hS (r4 (i := 0) hr (by omega)).1 hv3 hu2
      by_cases hb : bgn (tkKind U len q)
      · have h0 : ¬ tkKind U len q = 0 := fun e => by
          rw [e] at hb
          rcases hb with e | e | e | e | e | e | e <;> exact absurd e (by decide)
        obtain ⟨s2, e1, g1⟩ := er_ref (n := n) (f := 3) hS hE
        obtain ⟨t2, e2, g2⟩ := er_wrong (n := n) (f := 3) hS (by decide) hE
        rw [zft_3 h0] at g1
        rw [em1 h0 hb, ec1 hb, show f32 n 3 s = _ from e1, yb1_s, y0s]
        exact Rs_B (h82 3 q s2 g1) ⟨t2, e2, g2⟩
      · obtain ⟨t2, e2, g2⟩ := er_cant (n := n) hS hE
        have e3 : f199_77 n t = some t2 := by unfold f199_77; rw [y0s]; exact e2
        have e4 : f199_51 n (j2 + 2) (nI r) y (nI uu) (nI 3) 1 t = some t2 := by
          by_cases h0 : tkKind U len q = 0
          · rw [em0 h0, e3]
          · rw [em2 h0 hb, e3]
        rw [ec2 hb, e4]
        refine Rs_B (f := zft U len q 2) (z := q) ?_ ⟨t2, rfl, g2⟩
        unfold f64_82
        refine fw_y0 (nb_expr hn hS hE hb) (fun u2 hu2 => fcs_39 hu2 (by decide) ?_)
        unfold f64_46
        rw [if_pos rfl]
        exact fc_64_103 hn hS (r4 (i := 0) hr (by omega)).1 hv3 hu2
  | succ d ih =>
    intro i q nd cd us es j j2 E cs s t mo hd hj hj2 hmo h hu ha hb H
    obtain ⟨j, rfl⟩ : ∃ j0, j = j0 + 2 := ⟨j - 2, by omega⟩
    obtain ⟨j2, rfl⟩ : ∃ j0, j2 = j0 + 2 := ⟨j2 - 2, by omega⟩
    rcases hmo with hmo | hmo
    · subst hmo
      have hi : i ≤ 3 := by omega
      have hz := (r4 (i := 0) hr (by omega)).1
      have hnx := (r4 (i := 0) hr (by omega)).2.1
      have hzu : zin? (nI uu) 1400 = true := zin_nI hu4 (by decide)
      have em : ∀ j, f199_51 n (j + 1) (nI r) y (nI uu) (nI i) 0 t = yb0 (f179 n (41 : Int32) t) fun u1 => zlet (sI u1 (y + 20) r (nI i)) fun u2 => yb1 (f167 n u2) fun v4 u3 => if v4 = (0 : Int32) then some u3 else zlet (sI u3 (y + 35) uu (nI i)) fun u5 => some u5 := fun j => by
        rw [f199_51, if_pos rfl]
        simp only [if_pos hz, hnx, if_pos hzu, nx_nI (show uu < 2 ^ 31 by omega)]
      have ec : f64_46 n (j + 2) (nI r) (nI zz) v3 (nI i) 0 (nI i) s = f64_103 n (nI r) (nI zz) v3 (nI i) s := by
        rw [f64_46, if_pos rfl]
      have hv3 : v3 = -1 ∨ zin? v3 6 = true := by
        by_cases k0 : K = 0
        · rw [hv k0]; exact Or.inr (by decide)
        · obtain ⟨p, p1, p2, -⟩ := hp (by omega)
          have := h67 (by omega)
          rw [p2]; exact Or.inr (zin_nI (by omega) (by decide))
      rw [em] at H ⊢
      rw [ec]
      unfold f64_103
      refine st00 H (ER_y hS h.1.1) (b179 hy) (fun u => ?_) (st_want (k := 41) hn hS (by decide) (by decide) h) (fun f z u hF => ?_) (fun f z u hM => ?_) (fun a b hab H2 => ?_)
      · repeat' (first | (with_reducible exact b195 hy) | (with_reducible exact b164 hy) | (with_reducible exact b196 hy) | (with_reducible exact b182 hy) | (with_reducible exact b179 hy) | (with_reducible exact b172 hy) | (with_reducible exact b173 hy (by decide)) | (with_reducible exact b189 hn hy) | (with_reducible exact b190 hn hy _) | (with_reducible exact b178 hy) | (with_reducible exact bk_none) | (with_reducible exact bk_some LR_rf) | (with_reducible refine bk_ite (fun _ => ?_) (fun _ => ?_)) | (with_reducible refine bk_rdL ?_) | (with_reducible refine bk_zS LR_tr (LR_I ?_ ?_ ?_ ?_) ?_) | (with_reducible refine bk_zS LR_tr (LR_J ?_ ?_) ?_) | (with_reducible refine bk_zV ?_) | (with_reducible refine bk_y0 LR_tr ?_ (fun _ => ?_)) | (with_reducible refine bk_y1 LR_tr ?_ (fun _ _ => ?_)) | (with_reducible exact bk_pu pu_167 _) | (with_reducible exact bk_pu pu_177 _) | (with_reducible refine bk_pu (pu_170 hn ?_) _) | (with_reducible exact bk_pu (pu_175 hn) _) | (omega) | (decide))
      · have := fc_64_103 (a := nI r) (b := nI zz) (c := v3) (d := nI i) hn hS hz hv3 hF
        unfold f64_103 at this
        rw [c_want0 (by decide) (fc_4 hF), yb0_s] at this
        exact this
      · repeat' (first | (with_reducible assumption) | (with_reducible refine fw_some ?_) | (with_reducible exact ⟨rfl, by assumption⟩) | (with_reducible refine fms_rd hS (by assumption) ?_) | (with_reducible refine fms_167 (by assumption) ?_) | (with_reducible refine fms_173 (by assumption) ?_) | (with_reducible refine fms_172 (by assumption) ?_) | (with_reducible refine fms_179 (by assumption) ?_) | (with_reducible refine fms_164 hn hS (by assumption) (fun _ _ => ?_)) | (with_reducible refine fms_196 (by assumption) ?_) | (with_reducible refine fms_195 hS (by assumption) ?_) | (with_reducible refine fms_182 hS (by assumption) (fun _ _ => ?_)) | (with_reducible refine fms_189 (by assumption) ?_) | (with_reducible refine fms_190 (by assumption) ?_) | (with_reducible refine fms_178 (by assumption) ?_) | (with_reducible refine fms_I (by assumption) hy ?_ (fun _ => ?_)) | (with_reducible refine fw_z ?_) | (with_reducible refine fw_i1 rfl ?_) | (with_reducible refine fw_i1 (by assumption) ?_) | (with_reducible refine fw_i0 (by assumption) ?_) | (refine fw_i0 (by decide) ?_) | (refine fw_i1 (by decide) ?_) | (omega) | (decide))
      obtain ⟨⟨hql, -⟩, hA, hSC⟩ := hab
      have hgt := tkNx_gt (U := U) hql
      have hE2 := hA.1.1
      have hA2 := ST_wM (j := 5) (v := nI i) hS (by omega) (by omega) (by omega) (ST_wC (j := 2) (v := v3) hS (by omega) hA)
      have e35 : ∀ u, u < us → b.1 (y + 35) u = t.1 (y + 35) u := hSC.2.2.2.1
      rw [ER_5 hS hE2, grd (gck9 hx).2.1, if_pos hz, hnx]
      refine Rs_zm (Rs_zc ?_)
      replace H2 := Hb_z H2
      rw [m_goes (show (sI b (y + 20) r (nI i)).1 1132 9 = 0 from hA2.1.1.2.1.2.2), yb1_s, if_neg n10]
      refine Rs_zm ?_
      have k7 : (sI a (x + 22) r v3).1 1004 7 = nI K := hA2.1.1.2.2.1
      show Rs _ _ _ _ (if (sI a (x + 22) r v3).1 1004 7 = 0 then some (sI a (x + 22) r v3) else if (sI a (x + 22) r v3).1 1004 12 = -1 then if v3 = -1 then some (sI a (x + 22) r v3) else zrd 9 ((sI a (x + 22) r v3).2.2 1004 4) fun a4 => if zin? v3 6 = true then if nI i = (sI a (x + 22) r v3).1 (a4 + 18) (nx v3) then some (sI a (x + 22) r v3) else zlet (sI (sI a (x + 22) r v3) 1004 12 (nI zz)) fun u5 => some u5 else none else some (sI a (x + 22) r v3)) (some (sI (sI b (y + 20) r (nI i)) (y + 35) uu (nI i)))
      rw [k7]
      have hau : (sI b (y + 20) r (nI i)).1 (y + 35) uu = -1 := by rw [hIo (by omega), e35 uu hu]; exact ha
      have hbu : ∀ u, uu < u → u < us → (sI b (y + 20) r (nI i)).1 (y + 35) u = -1 := fun u e1 e2 => by rw [hIo (by omega), e35 u e2]; exact hb u e1 e2
      by_cases k0 : K = 0
      · rw [if_pos (by rw [k0]; rfl)]
        have := ST_mis (p := 0) (v3 := 0) (uu := uu) (i := i) hQ hA2 hu hi hau hbu _ (Or.inl ⟨k0, rfl⟩)
        exact Rs_A rfl rfl ⟨_, nd, cd, us, es, i, E, cs, by omega, hi, this.1, fun e => by omega⟩
      · have k1 : K = 1 := by omega
        obtain ⟨p, p1, p2, p3, p4⟩ := hp k1
        have hp6 : p < 6 := by have := h67 k1; omega
        subst p2
        have hne : ¬ nI p = -1 := fun e => (neqM (by omega)).mp e
        rw [if_neg (by rw [k1]; decide)]
        by_cases hm : (sI a (x + 22) r (nI p)).1 1004 12 = -1
        · rw [if_pos hm, if_neg hne, (BC_rf hS hA2.1.1.1.1).1, grd (gck9 hx).1, if_pos (zin_nI (show p < 6 from hp6) (by decide)), nx_nI (show p < 2 ^ 31 by omega)]
          by_cases he : nI i = (sI a (x + 22) r (nI p)).1 (x + 18) p
          · rw [if_pos he]
            have := ST_mis (p := p) (v3 := nI p) (uu := uu) (i := i) hQ hA2 hu hi hau hbu _ (Or.inr ⟨k1, p1, rfl, p3, Or.inr (Or.inl ⟨hm, he, rfl⟩)⟩)
            exact Rs_A rfl rfl ⟨_, nd, cd, us, es, i, E, cs, by omega, hi, this.1, fun _ => ⟨p, p1, rfl, this.2 k1⟩⟩
          · rw [if_neg he]
            have := ST_mis (p := p) (v3 := nI p) (uu := uu) (i := i) hQ hA2 hu hi hau hbu _ (Or.inr ⟨k1, p1, rfl, p3, Or.inr (Or.inr ⟨hm, he, zz, hzz, p4, rfl⟩)⟩)
            exact Rs_A rfl rfl ⟨_, nd, cd, us, es, i, E, cs, by omega, hi, this.1, fun _ => ⟨p, p1, rfl, this.2 k1⟩⟩
        · rw [if_neg hm]
          have := ST_mis (p := p) (v3 := nI p) (uu := uu) (i := i) hQ hA2 hu hi hau hbu _ (Or.inr ⟨k1, p1, rfl, p3, Or.inl ⟨hm, rfl⟩⟩)
          exact Rs_A rfl rfl ⟨_, nd, cd, us, es, i, E, cs, by omega, hi, this.1, fun _ => ⟨p, p1, rfl, this.2 k1⟩⟩
    · subst hmo
      obtain ⟨hz, hnx, h4m, h4a, h8z, h8n⟩ := r4 (i := i) hr (by omega)
      have hi3 : ¬ nI i = 3 := fun e => by have := (nIe (u := i) (k := 3) (by omega) (by decide)).mp e; omega
      have hi3' : ¬ (3 : Int32) < nI i := nI_nlt (a := 3) (by omega) (by omega)
      have em : f199_51 n (j2 + 2) (nI r) y (nI uu) (nI i) 1 t = yb1 (f190 n t) fun v7 u6 => zlet (sI u6 (y + 22) (4 * r + i) v7) fun u8 => yb1 (f167 n u8) fun v10 u9 => if v10 = (0 : Int32) then f199_51 n (j2 + 1) (nI r) y (nI uu) (nI (i + 1)) 0 u9 else yb1 (f177 n (44 : Int32) u9) fun v12 u11 => if v12 = (0 : Int32) then f199_51 n (j2 + 1) (nI r) y (nI uu) (nI (i + 1)) 0 u11 else yb0 (f164 n u11) fun u1 => f199_51 n (j2 + 1) (nI r) y (nI uu) (nI (i + 1)) 1 u1 := by
        rw [f199_51, if_neg (by decide), if_neg hi3]
        simp only [h4m, h4a, if_pos h8z, h8n, nI_1]
        rfl
      have ec : f64_46 n (j + 2) (nI r) (nI zz) v3 (nI i) 1 (nI i) s = yb0 (f49 n (f52 n 20) s) fun u1 => yb1 (f39 n (44 : Int32) u1) fun v3' u2 => f64_46 n (j + 1) (nI r) (nI zz) v3 (nI (i + 1)) v3' (nI (i + 1)) u2 := by
        rw [f64_46, if_neg (by decide), if_neg hi3', if_neg hi3, ← nI_1]
        rfl
      have hv3 : v3 = -1 ∨ zin? v3 6 = true := by
        by_cases k0 : K = 0
        · rw [hv k0]; exact Or.inr (by decide)
        · obtain ⟨p, p1, p2, -⟩ := hp (by omega)
          have := h67 (by omega)
          rw [p2]; exact Or.inr (zin_nI (by omega) (by decide))
      rw [em] at H ⊢
      rw [ec]
      refine st_e hQ (by omega) h H (fun u => ?_) (fun f z u hF => ?_) (fun f z u hM => ?_) (fun q2 nd2 cd2 us2 a b h1 h2 hA h3 h4 H2 => ?_)
      · repeat' (first | (with_reducible exact lb199 hn hy _ _ _ _ _) | (with_reducible exact b195 hy) | (with_reducible exact b164 hy) | (with_reducible exact b196 hy) | (with_reducible exact b182 hy) | (with_reducible exact b179 hy) | (with_reducible exact b172 hy) | (with_reducible exact b173 hy (by decide)) | (with_reducible exact b189 hn hy) | (with_reducible exact b190 hn hy _) | (with_reducible exact b178 hy) | (with_reducible exact bk_none) | (with_reducible exact bk_some LR_rf) | (with_reducible refine bk_ite (fun _ => ?_) (fun _ => ?_)) | (with_reducible refine bk_rdL ?_) | (with_reducible refine bk_zS LR_tr (LR_I ?_ ?_ ?_ ?_) ?_) | (with_reducible refine bk_zS LR_tr (LR_J ?_ ?_) ?_) | (with_reducible refine bk_zV ?_) | (with_reducible refine bk_y0 LR_tr ?_ (fun _ => ?_)) | (with_reducible refine bk_y1 LR_tr ?_ (fun _ _ => ?_)) | (with_reducible exact bk_pu pu_167 _) | (with_reducible exact bk_pu pu_177 _) | (with_reducible refine bk_pu (pu_170 hn ?_) _) | (with_reducible exact bk_pu (pu_175 hn) _) | (omega) | (decide))
      · refine fcs_39 hF (by decide) ?_
        unfold f64_46
        rw [if_pos rfl]
        exact fc_64_103 hn hS hz hv3 hF
      · refine fms_167 hM (fw_i1 rfl ?_)
        exact lm199 hn hS hz hM
      have hE2 := hA.1.1
      obtain ⟨a1, a2⟩ := st_acc (k := 44) hn hS (by decide) (by decide) hE2
      have hag : b.1 (y + 35) uu = -1 := by rw [h4.1 uu hu]; exact ha
      have hbg : ∀ u, uu < u → u < us2 → b.1 (y + 35) u = -1 := fun u e1 e2 => by
        by_cases e3 : u < us
        · rw [h4.1 u e3]; exact hb u e1 e3
        · exact h4.2 u (by omega) e2
      by_cases h44 : tkKind U len q2 = nI 44
      · have em2 : (yb1 (f167 n b) fun v10 u9 => if v10 = (0 : Int32) then f199_51 n (j2 + 1) (nI r) y (nI uu) (nI (i + 1)) 0 u9 else yb1 (f177 n (44 : Int32) u9) fun v12 u11 => if v12 = (0 : Int32) then f199_51 n (j2 + 1) (nI r) y (nI uu) (nI (i + 1)) 0 u11 else yb0 (f164 n u11) fun u1 => f199_51 n (j2 + 1) (nI r) y (nI uu) (nI (i + 1)) 1 u1) = yb0 (f164 n b) fun u1 => f199_51 n (j2 + 1) (nI r) y (nI uu) (nI (i + 1)) 1 u1 := by
          rw [m_goes hE2.2.1.2.2, yb1_s, if_neg (by decide), show f177 n 44 b = _ from a2, yb1_s, zone_1 h44, if_neg (by decide)]
        have ec2 : (yb1 (f39 n (44 : Int32) a) fun v3' u2 => f64_46 n (j + 1) (nI r) (nI zz) v3 (nI (i + 1)) v3' (nI (i + 1)) u2) = yb0 (f26 n a) fun u2 => f64_46 n (j + 1) (nI r) (nI zz) v3 (nI (i + 1)) 1 (nI (i + 1)) u2 := by
          rw [show f39 n 44 a = _ from a1, if_pos h44]
          cases f26 n a <;> rfl
        rw [em2] at H2 ⊢
        rw [ec2]
        have hgt := tkNx_gt (U := U) (tk_lt hE2 (by rw [h44]; decide))
        refine st_n hn hS hA H2 (fun u => lb199 hn hy _ _ _ _ _) (fun a' b' hA1 hSC hq2 H4 => ?_)
        have hA2 : b'.1 (y + 35) uu = -1 := by rw [hSC.2.2.2.1 uu (by omega)]; exact hag
        have hA3 : ∀ u, uu < u → u < us2 → b'.1 (y + 35) u = -1 := fun u e1 e2 => by rw [hSC.2.2.2.1 u e2]; exact hbg u e1 e2
        · skip
          refine Rs_w (ih (i + 1) (tkNx U len q2) nd2 cd2 us2 (es + 1) (j + 1) (j2 + 1) _ _ a' b' 1 (by omega) (by omega) (by omega) (Or.inr rfl) hA1 (by omega) hA2 hA3 H4) (fun a b _ _ hab => ?_)
          obtain ⟨q3, nd3, cd3, us3, es3, i3, E3, cs3, b1, b2⟩ := hab
          exact ⟨q3, nd3, cd3, us3, es3, i3, E3, cs3, by omega, b2⟩
      · have em2 : (yb1 (f167 n b) fun v10 u9 => if v10 = (0 : Int32) then f199_51 n (j2 + 1) (nI r) y (nI uu) (nI (i + 1)) 0 u9 else yb1 (f177 n (44 : Int32) u9) fun v12 u11 => if v12 = (0 : Int32) then f199_51 n (j2 + 1) (nI r) y (nI uu) (nI (i + 1)) 0 u11 else yb0 (f164 n u11) fun u1 => f199_51 n (j2 + 1) (nI r) y (nI uu) (nI (i + 1)) 1 u1) = f199_51 n (j2 + 1) (nI r) y (nI uu) (nI (i + 1)) 0 b := by
          rw [m_goes hE2.2.1.2.2, yb1_s, if_neg (by decide), show f177 n 44 b = _ from a2, yb1_s, zone_0 h44, if_pos rfl]
        have ec2 : (yb1 (f39 n (44 : Int32) a) fun v3' u2 => f64_46 n (j + 1) (nI r) (nI zz) v3 (nI (i + 1)) v3' (nI (i + 1)) u2) = f64_46 n (j + 1) (nI r) (nI zz) v3 (nI (i + 1)) 0 (nI (i + 1)) a := by
          rw [show f39 n 44 a = _ from a1, if_neg h44]
          rfl
        rw [em2] at H2 ⊢
        rw [ec2]
        refine Rs_w (ih (i + 1) q2 nd2 cd2 us2 (es + 1) (j + 1) (j2 + 1) _ _ a b 0 (by omega) (by omega) (by omega) (Or.inl rfl) hA (by omega) hag hbg H2) (fun a b _ _ hab => ?_)
        obtain ⟨q3, nd3, cd3, us3, es3, i3, E3, cs3, b1, b2⟩ := hab
        exact ⟨q3, nd3, cd3, us3, es3, i3, E3, cs3, by omega, b2⟩
end ZPX
