/-! declarations, both readers: a task -/
section ZRH
variable {U : Nat → Nat} {len x y n K np bl ub q dp nd cd us es na nb q2 N N2 c q4 na2 nb2 cd2 kd w rt i : Nat} {s0 t0 tz s t s2 t2 s3 t3 s4 t4 s5 t5 s6 t6 : zσ} {G G2 : Nat → Nat → Nat} {cnt cnt2 : Nat → Nat}
/-- what is written of a task -/
def tkC (v3 v5 v7 v9 : Int32) (u8 : zσ) : Option zσ := if v3 = (-1 : Int32) then some u8 else zrd 9 (u8.2.2 1004 4) fun a10 => if zin? v3 8 = true then zlet (sI u8 (a10 + 14) (nx v3) v5) fun u11 => zrd 9 (u11.2.2 1004 4) fun a12 => if zin? v3 8 = true then zlet (sI u11 (a12 + 15) (nx v3) (vp_nar .boolean v7)) fun u13 => zrd 9 (u13.2.2 1004 4) fun a14 => if zin? v3 8 = true then zlet (sI u13 (a14 + 16) (nx v3) v9) fun u15 => some u15 else none else none else none
theorem tk_end (hS : S0 U len x y s0 t0) (h : BC len x s0 s) (hi : i < 8) {v5 v7 v9 : Int32} : tkC (nI i) v5 v7 v9 s = some (sI (sI (sI s (x + 14) i v5) (x + 15) i (vp_nar .boolean v7)) (x + 16) i v9) := by
  have hr := (BC_rf hS h).1
  have hz : zin? (nI i) 8 = true := zin_nI hi (by decide)
  have hne : ¬ nI i = (-1 : Int32) := fun e => (neqM (by omega)).mp e
  have hg := (gck9 hS.1).1
  unfold tkC
  rw [if_neg hne, hr, grd hg, if_pos hz, nx_nI (show i < 2 ^ 31 by omega)]
  show (zrd 9 (s.2.2 1004 4) fun a12 => if zin? (nI i) 8 = true then zlet (sI (sI s (x + 14) i v5) (a12 + 15) i (vp_nar .boolean v7)) fun u13 => zrd 9 (u13.2.2 1004 4) fun a14 => if zin? (nI i) 8 = true then zlet (sI u13 (a14 + 16) i v9) fun u15 => some u15 else none else none) = _
  rw [hr, grd hg, if_pos hz]
  show (zrd 9 (s.2.2 1004 4) fun a14 => if zin? (nI i) 8 = true then zlet (sI (sI (sI s (x + 14) i v5) (x + 15) i (vp_nar .boolean v7)) (a14 + 16) i v9) fun u15 => some u15 else none) = _
  rw [hr, grd hg, if_pos hz]
  rfl
theorem fc_tk {f z : Nat} {v3 v5 v7 v9 : Int32} (hS : S0 U len x y s0 t0) (hv : v3 = -1 ∨ zin? v3 8 = true) (h : FC len x s0 f z s) : fw (FC len x s0 f z) (tkC v3 v5 v7 v9 s) := by
  have hx := hS.1
  unfold tkC
  refine fw_i (fun _ => fw_some h) (fun hne => ?_)
  have hz : zin? v3 8 = true := by
    rcases hv with e | e
    · exact absurd e hne
    · exact e
  exact fcs_r4 hS h (fw_i1 hz (fcs_I h hx (by omega) (by omega) (by omega) (fun h2 => fcs_r4 hS h2 (fw_i1 hz (fcs_I h2 hx (by omega) (by omega) (by omega) (fun h3 => fcs_r4 hS h3 (fw_i1 hz (fcs_I h3 hx (by omega) (by omega) (by omega) (fun h4 => fw_some h4)))))))))
theorem fc_tkb {f z : Nat} {v3 v5 v7 : Int32} (hS : S0 U len x y s0 t0) (hB : BPP n U len x y s0 t0 K np tz 0 (f40 n 20) (f181 n 20)) (hv : v3 = -1 ∨ zin? v3 8 = true) (h : FC len x s0 f z s) : fw (FC len x s0 f z) (yb1 (f40 n 20 0 v3 s) fun v9 u8 => tkC v3 v5 v7 v9 u8) := by
  rw [hB.2.1 f z _ _ s h, yb1_s]
  exact fc_tk hS hv h
theorem fm_250 {f z : Nat} {v : Int32} (hS : S0 U len x y s0 t0) (hB : BPP n U len x y s0 t0 K np tz 0 (f40 n 20) (f181 n 20)) (hv : zin? v 8 = true) (h : FM len y t0 f z t) : fw (FM len y t0 f z) (f168_250 n y v t) := by
  have hy := hS.2.1
  unfold f168_250
  rw [hB.2.2.1 f z t h, yb1_s]
  exact fw_i1 hv (fms_I h hy (by omega) (fun h2 => fw_some h2))
theorem fm_235 {f z : Nat} {v : Int32} (hS : S0 U len x y s0 t0) (hB : BPP n U len x y s0 t0 K np tz 0 (f40 n 20) (f181 n 20)) (hv : zin? v 8 = true) (h : FM len y t0 f z t) : fw (FM len y t0 f z) (f168_235 n y v v (y + 9) t) := by
  have hy := hS.2.1
  unfold f168_235 f168_236
  exact fw_i1 hv (fms_I h hy (by omega) (fun h2 => fw_i1 hv (fw_i1 (hIe.trans gnar0) (fm_250 hS hB hv h2))))
theorem task_ok (hn : 5000 ≤ n) (hS : S0 U len x y s0 t0) (hQ : HQ n U len x y s0 t0 K tz G 0) (hG : HG K y tz G) (h : DR U len x y s0 t0 K np tz G cnt N q nd cd us es na nb s t) (hk : tkKind U len q = nI 136) (H : Hb (fun u => u) K np y tz (f168 n t)) : Rs (FC len x s0) (FM len y t0) (ZB K y tz) (fun a b => ∃ q2 nd2 cd2 us2 es2 na2 nb2, q + 1 ≤ q2 ∧ DR U len x y s0 t0 K np tz G (uN cnt 8 (cnt 8 + 1)) (N + 1) q2 nd2 cd2 us2 es2 na2 nb2 a b) (f66 n s) (f168 n t) := by
  have hx := hS.1
  have hy := hS.2.1
  have hK01 := hQ.2.2.2.2.2.1
  obtain ⟨hR, hP, hD, hV, hGD⟩ := id h
  have hE := hR.1
  obtain ⟨hq, hU, -⟩ := ER_q hE
  have hB : BPP n U len x y s0 t0 K np tz 0 (f40 n 20) (f181 n 20) := blk_all hn hS 19
  have hql := tk_lt hE (by rw [hk]; exact fun e => by have := (nIe (u := 136) (k := 3) (by omega) (by decide)).mp e; omega)
  have hgt := tkNx_gt (U := U) hql
  have h4 : q + 4 ≤ tkNx U len q := Nat.le_trans (w_len (w := 8) (L := 4) hU hq (by decide) hk zWd_4.2.2.2.2.2 (by decide) (by decide) (by decide)).1 zsk_ge
  have em : f168 n t = yb0 (f164 n t) fun u4 => yb1 (f174 n (nI 8) u4) fun v6 u5 => yb1 (f167 n u5) fun v8 u7 => if v8 = (0 : Int32) then some u7 else yb1 (f178 n 1 9 u7) fun v11 u10 => if zin? v6 8 = true then zlet (sI u10 (y + 8) (nx v6) v11) fun u12 => yb1 (f167 n u12) fun v14 u13 => if v14 = (0 : Int32) then f168_235 n y v6 v6 (y + 9) u13 else yb1 (f170 n 50 u13) fun v16 u15 => if v16 = (0 : Int32) then f168_235 n y v6 v6 (y + 9) u15 else f168_236 n y v6 1 v6 (y + 9) u15 else none := by
    unfold f168
    rw [ER_y hS hE, grd (gck12 hy), (m_169 hn hE).1 8 (by decide) hk, yb1_s, if_neg (show ¬ nI 8 = (-1 : Int32) by decide)]
    simp only [if_neg (show ¬ nI 8 = (0 : Int32) by decide), if_neg (show ¬ nI 8 = (2 : Int32) by decide), if_neg (show ¬ nI 8 = (7 : Int32) by decide), if_pos (show nI 8 = (8 : Int32) by decide)]
  rw [em] at H ⊢
  unfold f66
  refine ev_n hn hS hE H (fun u => ?_) (fun s1 t1 hE1 o1 o2 hq1 H1 => ?_)
  · unfold f168_235 f168_236 f168_250
    repeat' (first | (with_reducible exact b174 hn hy _) | (with_reducible exact b181 hn hy _ _) | (with_reducible exact b195 hy) | (with_reducible exact b164 hy) | (with_reducible exact b196 hy) | (with_reducible exact b182 hy) | (with_reducible exact b179 hy) | (with_reducible exact b172 hy) | (with_reducible exact b173 hy (by decide)) | (with_reducible exact b189 hn hy) | (with_reducible exact b190 hn hy _) | (with_reducible exact b178 hy) | (with_reducible exact bk_none) | (with_reducible exact bk_some LR_rf) | (with_reducible refine bk_ite (fun _ => ?_) (fun _ => ?_)) | (with_reducible refine bk_rdL ?_) | (with_reducible refine bk_zS LR_tr (LR_I ?_ ?_ ?_ ?_) ?_) | (with_reducible refine bk_zS LR_tr (LR_J ?_ ?_) ?_) | (with_reducible refine bk_zV ?_) | (with_reducible refine bk_y0 LR_tr ?_ (fun _ => ?_)) | (with_reducible refine bk_y1 LR_tr ?_ (fun _ _ => ?_)) | (with_reducible exact bk_pu pu_167 _) | (with_reducible exact bk_pu pu_177 _) | (with_reducible refine bk_pu (pu_170 hn ?_) _) | (with_reducible exact bk_pu (pu_175 hn) _) | (omega) | (decide))
  have hv1 : vF x y s t s1 t1 := vF_tok hx o1 o2
  have hD1 := DT_v hS hD hv1
  refine st11 H1 (ER_y hS hE1) (b174 hn hy _) (fun v u => ?_) (tell_ok (c := 8) hn hS hK01 hE1 hD1 (by omega)) (fun f z v a hF => ?_) (fun f z w b hM => ?_) (fun v2 s2 w2 t2 hA H2 => ?_)
  · unfold f168_235 f168_236 f168_250
    repeat' (first | (with_reducible exact b181 hn hy _ _) | (with_reducible exact b195 hy) | (with_reducible exact b164 hy) | (with_reducible exact b196 hy) | (with_reducible exact b182 hy) | (with_reducible exact b179 hy) | (with_reducible exact b172 hy) | (with_reducible exact b173 hy (by decide)) | (with_reducible exact b189 hn hy) | (with_reducible exact b190 hn hy _) | (with_reducible exact b178 hy) | (with_reducible exact bk_none) | (with_reducible exact bk_some LR_rf) | (with_reducible refine bk_ite (fun _ => ?_) (fun _ => ?_)) | (with_reducible refine bk_rdL ?_) | (with_reducible refine bk_zS LR_tr (LR_I ?_ ?_ ?_ ?_) ?_) | (with_reducible refine bk_zS LR_tr (LR_J ?_ ?_) ?_) | (with_reducible refine bk_zV ?_) | (with_reducible refine bk_y0 LR_tr ?_ (fun _ => ?_)) | (with_reducible refine bk_y1 LR_tr ?_ (fun _ _ => ?_)) | (with_reducible exact bk_pu pu_167 _) | (with_reducible exact bk_pu pu_177 _) | (with_reducible refine bk_pu (pu_170 hn ?_) _) | (with_reducible exact bk_pu (pu_175 hn) _) | (omega) | (decide))
  · obtain ⟨e, hF⟩ := hF
    have e : v = -1 := e
    subst e
    have hF : FC len x s0 f z a := hF
    exact fcs_67 hF (fcs_39 hF (by decide) (fc_tkb hS hB (Or.inl rfl) hF))
  · have hM2 : FM len y t0 f z b := hM
    exact fms_167 hM2 (fw_i1 rfl (fw_some hM2))
  obtain ⟨⟨ev, ew⟩, hql1, hlim, hE2, hD2, hf2⟩ := hA
  have ev : v2 = nI (cnt 8) := ev
  have ew : w2 = nI (cnt 8) := ew
  subst ev
  subst ew
  have hE2 : ER U len x y s0 t0 K np tz G nb (4 * na) (tkNx U len (tkNx U len q)) 0 nd cd us s2 t2 := hE2
  have hD2 : DT x y K (uN cnt 8 (cnt 8 + 1)) (N + 1) s2 t2 := hD2
  have hf2 : tF x y s1 t1 s2 t2 := hf2
  have hgt1 := tkNx_gt (U := U) hql1
  have hc8 : cnt 8 < 8 := hlim
  have z8 : zin? (nI (cnt 8)) 8 = true := zin_nI hc8 (by decide)
  have nx8 : nx (nI (cnt 8)) = cnt 8 := nx_nI (by omega)
  have hu : ∀ k, uN cnt 8 (cnt 8 + 1) k = if k = 8 then cnt 8 + 1 else cnt k := fun k => rfl
  rw [m_goes hE2.2.1.2.2, yb1_s, if_neg n10] at H2 ⊢
  refine st11 H2 (ER_y hS hE2) (b178 hy) (fun v u => ?_) (num_ok hn hS hE2) (fun f z v a hF => ?_) (fun f z w b hM => ?_) (fun v3 s3 w3 t3 hA H3 => ?_)
  · unfold f168_235 f168_236 f168_250
    repeat' (first | (with_reducible exact b181 hn hy _ _) | (with_reducible exact b195 hy) | (with_reducible exact b164 hy) | (with_reducible exact b196 hy) | (with_reducible exact b182 hy) | (with_reducible exact b179 hy) | (with_reducible exact b172 hy) | (with_reducible exact b173 hy (by decide)) | (with_reducible exact b189 hn hy) | (with_reducible exact b190 hn hy _) | (with_reducible exact b178 hy) | (with_reducible exact bk_none) | (with_reducible exact bk_some LR_rf) | (with_reducible refine bk_ite (fun _ => ?_) (fun _ => ?_)) | (with_reducible refine bk_rdL ?_) | (with_reducible refine bk_zS LR_tr (LR_I ?_ ?_ ?_ ?_) ?_) | (with_reducible refine bk_zS LR_tr (LR_J ?_ ?_) ?_) | (with_reducible refine bk_zV ?_) | (with_reducible refine bk_y0 LR_tr ?_ (fun _ => ?_)) | (with_reducible refine bk_y1 LR_tr ?_ (fun _ _ => ?_)) | (with_reducible exact bk_pu pu_167 _) | (with_reducible exact bk_pu pu_177 _) | (with_reducible refine bk_pu (pu_170 hn ?_) _) | (with_reducible exact bk_pu (pu_175 hn) _) | (omega) | (decide))
  · obtain ⟨-, hF⟩ := hF
    have hF : FC len x s0 f z a := hF
    exact fcs_39 hF (by decide) (fc_tkb hS hB (Or.inr z8) hF)
  · obtain ⟨-, hM⟩ := hM
    have hM2 : FM len y t0 f z b := hM
    exact fw_i1 z8 (fms_I hM2 hy (by omega) (fun h2 => fms_167 h2 (fw_i1 rfl (fm_235 hS hB z8 h2))))
  obtain ⟨v, ⟨v1, v2, v4, v5, v6⟩, hql3, hE3, o3, o4⟩ := hA
  have v2 : v3 = nI v := v2
  have v4 : w3 = nI v := v4
  subst v2
  subst v4
  have hE3 : ER U len x y s0 t0 K np tz G nb (4 * na) (tkNx U len (tkNx U len (tkNx U len q))) 0 nd cd us s3 t3 := hE3
  have o3 : zof s2 s3 1001 := o3
  have o4 : frN t2 t3 := o4
  have hgt3 := tkNx_gt (U := U) hql3
  have v19 : 1 ≤ v ∧ v ≤ 9 := by
    constructor
    · by_cases hv0 : v = 0
      · subst hv0; exact absurd (show nI 0 < (1 : Int32) by decide) v5
      · omega
    · by_cases hgt9 : 9 < v
      · exact absurd (show (9 : Int32) < nI v from nI_lt (a := 9) hgt9 v1) v6
      · omega
  rw [if_pos z8, nx8] at H3 ⊢
  refine Rs_zm ?_
  replace H3 := Hb_z H3
  have hE4 : ER U len x y s0 t0 K np tz G nb (4 * na) (tkNx U len (tkNx U len (tkNx U len q))) 0 nd cd us s3 (sI t3 (y + 8) (cnt 8) (nI v)) := ER_wW hS (by omega) hE3
  have es3 : ∀ a, a ≠ 1001 → a ≠ 1005 → a ≠ x + 11 → s3.1 a = s.1 a := fun a p1 p2 p3 => ((o3.1 a p1).1.trans (hf2.1.1 a p1 p2 p3)).trans (o1.1 a p1).1
  have et3 : ∀ a, a ≠ 1132 → a ≠ y → a ≠ y + 2 → a ≠ y + 3 → a ≠ y + 4 → t3.1 a = t.1 a := fun a p1 p2 p3 p4 p5 => ((o4.1 a p1).1.trans (hf2.2.1 a p1 p2 p3 p4 p5)).trans (o2.1 a p1).1
  have ety : ∀ k, k ≠ 0 → t3.1 y k = t.1 y k := fun k hk => by rw [(o4.1 y (by omega)).1, hf2.2.2.2.2.1 k hk, (o2.1 y (by omega)).1]
  have et15 : t3.1 1132 15 = t.1 1132 15 := ((o4.2.1 15 (by decide) (by decide) (by decide) (by decide) (by decide)).trans (hf2.2.2.2.2.2 15 (by decide) (by decide) (by decide) (by decide) (by decide) (by decide) (by decide))).trans (o2.2.1 15 (by decide) (by decide) (by decide) (by decide) (by decide))
  have hD3 : DT x y K (uN cnt 8 (cnt 8 + 1)) (N + 1) s3 t3 := DT_v hS hD2 (vF_tok hx o3 o4)
  have key : ∀ (mv : Int32) (q4 : Nat) (s4 t4 : zσ), (mv = 0 ∨ mv = 1) → q + 5 ≤ q4 → ER U len x y s0 t0 K np tz G nb (4 * na) q4 0 nd cd us s4 t4 → zof s3 s4 1001 → frN (sI (sI t3 (y + 8) (cnt 8) (nI v)) (y + 9) (cnt 8) mv) t4 → Hb (fun u => u) K np y tz (f168_250 n y (nI (cnt 8)) t4) → Rs (FC len x s0) (FM len y t0) (ZB K y tz) (fun a b => ∃ q2 nd2 cd2 us2 es2 na2 nb2, q + 1 ≤ q2 ∧ DR U len x y s0 t0 K np tz G (uN cnt 8 (cnt 8 + 1)) (N + 1) q2 nd2 cd2 us2 es2 na2 nb2 a b) (yb1 (f40 n 20 0 (nI (cnt 8)) s4) fun v9 u8 => tkC (nI (cnt 8)) (nI v) mv v9 u8) (f168_250 n y (nI (cnt 8)) t4) := fun mv q4 s4 t4 hmv hq4 hE4 o5 o6 H4 => by
    unfold f168_250 at H4 ⊢
    have es4 : ∀ a, a ≠ 1001 → a ≠ 1005 → a ≠ x + 11 → s4.1 a = s.1 a := fun a p1 p2 p3 => (o5.1 a p1).1.trans (es3 a p1 p2 p3)
    have et4 : ∀ a, a ≠ 1132 → a ≠ y → a ≠ y + 2 → a ≠ y + 3 → a ≠ y + 4 → a ≠ y + 8 → a ≠ y + 9 → t4.1 a = t.1 a := fun a p1 p2 p3 p4 p5 p6 p7 => (o6.1 a p1).1.trans (by rw [hIo p7, hIo p6]; exact et3 a p1 p2 p3 p4 p5)
    have e48 : ∀ k, t4.1 (y + 8) k = if k = cnt 8 then nI v else t.1 (y + 8) k := fun k => by
      rw [(o6.1 _ (by omega)).1, hIo (by omega)]
      by_cases e : k = cnt 8
      · rw [if_pos e, e]; exact hIe
      · rw [if_neg e, hIk e, et3 _ (by omega) (by omega) (by omega) (by omega) (by omega)]
    have e49 : ∀ k, t4.1 (y + 9) k = if k = cnt 8 then mv else t.1 (y + 9) k := fun k => by
      rw [(o6.1 _ (by omega)).1]
      by_cases e : k = cnt 8
      · rw [if_pos e, e]; exact hIe
      · rw [if_neg e, hIk e, hIo (by omega), et3 _ (by omega) (by omega) (by omega) (by omega) (by omega)]
    have ety4 : ∀ k, k ≠ 0 → t4.1 y k = t.1 y k := fun k hk => by rw [(o6.1 y (by omega)).1, hIo (by omega), hIo (by omega)]; exact ety k hk
    have et154 : t4.1 1132 15 = -1 := by rw [o6.2.1 15 (by decide) (by decide) (by decide) (by decide) (by decide), hIo (by omega), hIo (by omega), et15]; exact hP.2.1
    have e4 : s4.1 1004 = s.1 1004 := es4 _ (by omega) (by omega) (by omega)
    have e38 : s4.1 1004 3 = 0 ∧ s4.1 1004 8 = 0 ∧ s4.1 1004 12 = s.1 1004 12 := ⟨by rw [e4]; exact hP.1, by rw [e4]; exact hP.2.2, by rw [e4]⟩
    have hD4 : DT x y K (uN cnt 8 (cnt 8 + 1)) (N + 1) s4 t4 := DT_fr hD3 (o5.1 _ (by omega)).1 (o5.1 _ (by omega)).1 (fun c hc => (o5.1 _ (by omega)).2.1) (by rw [(o6.1 _ (by omega)).1, hIo (by omega), hIo (by omega)]) (by rw [(o6.1 _ (by omega)).1, hIo (by omega), hIo (by omega)]) (by rw [(o6.1 _ (by omega)).1, hIo (by omega), hIo (by omega)]) (by rw [(o6.1 _ (by omega)).1, hIo (by omega), hIo (by omega)]) (o6.1 _ (by omega)).2.1
    have gb := Gbl_b (G := G) (b := nb) (k := 0) (w := cnt 8) (l := 1) (rt := cnt 8) (st := nb)
    have hf : ∀ f k, f = 0 ∨ f = 6 ∨ f = 12 ∨ f = 13 → Gbl G nb 0 (cnt 8) 1 (cnt 8) nb f k = G f k := fun f k hf => Gbl_o (by omega)
    have hSR : SR U len x y s0 t0 K np tz (Gbl G nb 0 (cnt 8) 1 (cnt 8) nb) nb (4 * na) q4 0 nd cd us es na nb s4 t4 := SR_pre hR (ER_top hE4 ⟨e38.1, et154⟩) (by omega) (fun k => hf 6 k (by omega)) (es4 _ (by omega) (by omega) (by omega)) (es4 _ (by omega) (by omega) (by omega)) ety4 (Or.inl ⟨e38.2.1, et154⟩) e38.2.2 (et4 _ (by omega) (by omega) (by omega) (by omega) (by omega) (by omega) (by omega)) (fun hK p hp => by rw [es4 _ (by omega) (by omega) (by omega)]; exact hR.2.2.2.2.2.2 hK p hp)
    have h6 := hR.2.2.1.2.2
    refine st11 H4 (ER_y hS hE4) (b181 hn hy _ _) (fun v u => ?_) (hB.1 (Gbl G nb 0 (cnt 8) 1 (cnt 8) nb) q4 0 nd cd us es na nb s4 t4 0 (nI (cnt 8)) (Nat.zero_le _) (HQ_G hQ (fun k => hf 6 k (by omega)) (fun k => hf 13 k (by omega))) (HG_G hG (fun k => hf 0 k (by omega)) (fun k => hf 6 k (by omega)) (fun k => hf 12 k (by omega))) hSR (by omega) (fun hK => ⟨by rw [gb.1]; rfl, by rw [gb.2.1], gb.2.2.1, by rw [gb.1]; omega⟩)) (fun f z v a hF => ?_) (fun f z w b hM => ?_) (fun v5 s5 w5 t5 hA H5 => ?_)
    · repeat' (first | (with_reducible exact b195 hy) | (with_reducible exact b164 hy) | (with_reducible exact b196 hy) | (with_reducible exact b182 hy) | (with_reducible exact b179 hy) | (with_reducible exact b172 hy) | (with_reducible exact b173 hy (by decide)) | (with_reducible exact b189 hn hy) | (with_reducible exact b190 hn hy _) | (with_reducible exact b178 hy) | (with_reducible exact bk_none) | (with_reducible exact bk_some LR_rf) | (with_reducible refine bk_ite (fun _ => ?_) (fun _ => ?_)) | (with_reducible refine bk_rdL ?_) | (with_reducible refine bk_zS LR_tr (LR_I ?_ ?_ ?_ ?_) ?_) | (with_reducible refine bk_zS LR_tr (LR_J ?_ ?_) ?_) | (with_reducible refine bk_zV ?_) | (with_reducible refine bk_y0 LR_tr ?_ (fun _ => ?_)) | (with_reducible refine bk_y1 LR_tr ?_ (fun _ _ => ?_)) | (with_reducible exact bk_pu pu_167 _) | (with_reducible exact bk_pu pu_177 _) | (with_reducible refine bk_pu (pu_170 hn ?_) _) | (with_reducible exact bk_pu (pu_175 hn) _) | (omega) | (decide))
    · exact fc_tk hS (Or.inr z8) hF.2
    · have hM2 : FM len y t0 f z b := hM
      exact fw_i1 z8 (fms_I hM2 hy (by omega) (fun h2 => fw_some h2))
    obtain ⟨⟨ev, ew⟩, q5, nd5, cd5, us5, es5, na5, nb5, ⟨l1, l2, l3, l4⟩, hR5, ⟨hLC, hLM⟩, hDa⟩ := hA
    have ev : v5 = nI nb := ev
    have ew : w5 = nI nb := ew
    subst ev
    subst ew
    have hR5 : SR U len x y s0 t0 K np tz (Gbl G nb 0 (cnt 8) 1 (cnt 8) nb) nb (4 * na5) q5 0 nd5 cd5 us5 es5 na5 nb5 s5 t5 := hR5
    have hLC : LC x K na nb cd s4 s5 := hLC
    have hLM : LM y na nb t4 t5 := hLM
    rw [if_pos z8, nx8] at H5 ⊢
    have gm : vp_nar .boolean mv = mv := by rcases hmv with e | e <;> subst e <;> decide
    refine Rs_A (tk_end hS hR5.1.1.1 hc8) rfl ?_
    rw [gm]
    have e5 : s5.1 1004 3 = 0 ∧ s5.1 1004 8 = 0 := ⟨(hLC.2.2.2.1 3 (by decide) (by decide) (by decide) (by decide)).trans e38.1, (hLC.2.2.2.1 8 (by decide) (by decide) (by decide) (by decide)).trans e38.2.1⟩
    have f15 : t5.1 1132 15 = -1 := (hLM.2.2.2.1 15 (by decide) (by decide) (by decide) (by decide) (by decide) (by decide) (by decide) (by decide)).trans et154
    have gC : ∀ a, a ≠ x + 14 → a ≠ x + 15 → a ≠ x + 16 → (sI (sI (sI s5 (x + 14) (cnt 8) (nI v)) (x + 15) (cnt 8) mv) (x + 16) (cnt 8) (nI nb)).1 a = s5.1 a := fun a p1 p2 p3 => by rw [hIo p3, hIo p2, hIo p1]
    have gM : ∀ a, a ≠ y + 7 → (sI t5 (y + 7) (cnt 8) (nI nb)).1 a = t5.1 a := fun a p1 => hIo p1
    have s5s : ∀ a, a ≠ 1001 → a ≠ 1004 → a ≠ 1005 → a ≠ x + 11 → a < x + 19 → s5.1 a = s.1 a := fun a p1 p2 p3 p4 p5 => (hLC.1 a p1 p2 (Or.inl p5)).trans (es4 a p1 p3 p4)
    have t5t : ∀ a, y + 5 ≤ a → a < y + 13 → t5.1 a = t4.1 a := fun a p1 p2 => hLM.1 a (by omega) (by omega) (Or.inl p2)
    have hE6 : ER U len x y s0 t0 K np tz G nb5 (4 * na5) q5 0 nd5 cd5 us5 (sI (sI (sI s5 (x + 14) (cnt 8) (nI v)) (x + 15) (cnt 8) mv) (x + 16) (cnt 8) (nI nb)) (sI t5 (y + 7) (cnt 8) (nI nb)) := ER_wW hS (by omega) (ER_wV hS (by omega) (ER_wV hS (by omega) (ER_wV hS (by omega) (ER_top hR5.1 ⟨e5.1, f15⟩))))
    refine ⟨q5, nd5, cd5, us5, es5, na5, nb5, by omega, SR_pre hR5 hE6 (Nat.le_refl _) (fun k => (hf 6 k (by omega)).symm) (gC _ (by omega) (by omega) (by omega)) (gC _ (by omega) (by omega) (by omega)) (fun k _ => by rw [gM _ (by omega)]) (Or.inl ⟨by rw [gC _ (by omega) (by omega) (by omega)]; exact e5.2, by rw [gM _ (by omega)]; exact f15⟩) (by rw [gC _ (by omega) (by omega) (by omega)]) (gM _ (by omega)) (fun hK p hp => by rw [gC _ (by omega) (by omega) (by omega)]; exact hR5.2.2.2.2.2.2 hK p hp), ⟨by rw [gC _ (by omega) (by omega) (by omega)]; exact e5.1, by rw [gM _ (by omega)]; exact f15, by rw [gC _ (by omega) (by omega) (by omega)]; exact e5.2⟩, ?_, ?_, ?_⟩
    · exact DT_fr (DT_L hx hy hD4 hLC hLM) (gC _ (by omega) (by omega) (by omega)) (gC _ (by omega) (by omega) (by omega)) (fun c hc => rfl) (gM _ (by omega)) (by rw [gM _ (by omega)]) (gM _ (by omega)) (gM _ (by omega)) rfl
    · refine DV_blk hV (by omega) ⟨?_, ?_, ?_, ?_⟩ ⟨rfl, rfl⟩ (fun k hk => ⟨?_, ?_, ?_, ?_, ?_, ?_⟩) (fun k hk => ⟨?_, ?_, ?_, ?_⟩) (fun k hk hk2 => ?_) (fun k hk hk2 => absurd hk hk2)
      · rw [gC _ (by omega) (by omega) (by omega), s5s _ (by omega) (by omega) (by omega) (by omega) (by omega)]
      · rw [gC _ (by omega) (by omega) (by omega), s5s _ (by omega) (by omega) (by omega) (by omega) (by omega)]
      · rw [gM _ (by omega), t5t _ (by omega) (by omega), et4 _ (by omega) (by omega) (by omega) (by omega) (by omega) (by omega) (by omega)]
      · rw [gM _ (by omega), t5t _ (by omega) (by omega), et4 _ (by omega) (by omega) (by omega) (by omega) (by omega) (by omega) (by omega)]
      · rw [hIo (by omega), hIo (by omega), hIk (by omega), s5s _ (by omega) (by omega) (by omega) (by omega) (by omega)]
      · rw [hIo (by omega), hIk (by omega), hIo (by omega), s5s _ (by omega) (by omega) (by omega) (by omega) (by omega)]
      · rw [hIk (by omega), hIo (by omega), hIo (by omega), s5s _ (by omega) (by omega) (by omega) (by omega) (by omega)]
      · rw [gM _ (by omega), t5t _ (by omega) (by omega), e48, if_neg (by omega)]
      · rw [gM _ (by omega), t5t _ (by omega) (by omega), e49, if_neg (by omega)]
      · rw [hIk (by omega), t5t _ (by omega) (by omega), et4 _ (by omega) (by omega) (by omega) (by omega) (by omega) (by omega) (by omega)]
      · rw [gC _ (by omega) (by omega) (by omega), s5s _ (by omega) (by omega) (by omega) (by omega) (by omega)]
      · rw [gC _ (by omega) (by omega) (by omega), s5s _ (by omega) (by omega) (by omega) (by omega) (by omega)]
      · rw [gM _ (by omega), t5t _ (by omega) (by omega), et4 _ (by omega) (by omega) (by omega) (by omega) (by omega) (by omega) (by omega)]
      · rw [gM _ (by omega), t5t _ (by omega) (by omega), et4 _ (by omega) (by omega) (by omega) (by omega) (by omega) (by omega) (by omega)]
      · have hk : k < cnt 8 + 1 := hk
        have : k = cnt 8 := by omega
        subst this
        refine ⟨⟨v, v19.1, v19.2, ?_, ?_⟩, ⟨?_, ?_⟩, hIe, hIe⟩
        · rw [hIo (by omega), hIo (by omega)]; exact hIe
        · rw [gM _ (by omega), t5t _ (by omega) (by omega), e48, if_pos rfl]
        · rw [hIo (by omega), gM _ (by omega), t5t _ (by omega) (by omega), e49, if_pos rfl]; exact hIe
        · rw [hIo (by omega)]
          rcases hmv with e | e
          · exact Or.inl (hIe.trans e)
          · exact Or.inr (hIe.trans e)
    · refine GD_blk hGD (fun a p1 p2 => es4 a (by omega) (by omega) (by omega)) (fun a p1 p2 => et4 a (by omega) (by omega) (by omega) (by omega) (by omega) (by omega) (by omega)) e38.2.2 hLC hLM ⟨l2, l3, l4⟩ hDa (fun a p1 p2 => gC a (by omega) (by omega) (by omega)) (fun a p1 p2 => gM a (by omega)) (by rw [gC _ (by omega) (by omega) (by omega)]) (fun k hk => ?_) (fun k hk => ?_) (Or.inl ⟨rfl, rfl, rfl, rfl, rfl, hIe⟩)
      · rw [hIk (by omega), hIo (by omega), hIo (by omega), s5s _ (by omega) (by omega) (by omega) (by omega) (by omega)]
      · rw [gC _ (by omega) (by omega) (by omega), s5s _ (by omega) (by omega) (by omega) (by omega) (by omega)]
  have f50 : f170 n 50 (sI t3 (y + 8) (cnt 8) (nI v)) = _ := tm_word (w := 9) hn hE4.2.1.2.1 (by decide) (by decide) (by decide +kernel)
  rw [m_goes hE4.2.1.2.2, yb1_s, if_neg n10, f50, yb1_s] at H3 ⊢
  unfold f39
  rw [ER_k hE4]
  by_cases h137 : tkKind U len (tkNx U len (tkNx U len (tkNx U len q))) = nI (128 + 9)
  · rw [zone_1 h137, if_neg n10] at H3 ⊢
    rw [if_pos (show tkKind U len (tkNx U len (tkNx U len (tkNx U len q))) = 137 from h137), as_10]
    unfold f168_236 at H3 ⊢
    rw [if_pos z8, nx8, gnar1] at H3 ⊢
    refine Rs_zm ?_
    replace H3 := Hb_z H3
    rw [if_pos z8, if_neg (show ¬ (sI (sI t3 (y + 8) (cnt 8) (nI v)) (y + 9) (cnt 8) 1).1 (y + 9) (cnt 8) = 0 by rw [hIe]; decide)] at H3 ⊢
    have hE5 : ER U len x y s0 t0 K np tz G nb (4 * na) (tkNx U len (tkNx U len (tkNx U len q))) 0 nd cd us s3 (sI (sI t3 (y + 8) (cnt 8) (nI v)) (y + 9) (cnt 8) 1) := ER_wW hS (by omega) hE4
    refine ev_n hn hS hE5 H3 (fun u => ?_) (fun s4 t4 hE6 o5 o6 hq4 H4 => ?_)
    · unfold f168_250
      repeat' (first | (with_reducible exact b181 hn hy _ _) | (with_reducible exact b195 hy) | (with_reducible exact b164 hy) | (with_reducible exact b196 hy) | (with_reducible exact b182 hy) | (with_reducible exact b179 hy) | (with_reducible exact b172 hy) | (with_reducible exact b173 hy (by decide)) | (with_reducible exact b189 hn hy) | (with_reducible exact b190 hn hy _) | (with_reducible exact b178 hy) | (with_reducible exact bk_none) | (with_reducible exact bk_some LR_rf) | (with_reducible refine bk_ite (fun _ => ?_) (fun _ => ?_)) | (with_reducible refine bk_rdL ?_) | (with_reducible refine bk_zS LR_tr (LR_I ?_ ?_ ?_ ?_) ?_) | (with_reducible refine bk_zS LR_tr (LR_J ?_ ?_) ?_) | (with_reducible refine bk_zV ?_) | (with_reducible refine bk_y0 LR_tr ?_ (fun _ => ?_)) | (with_reducible refine bk_y1 LR_tr ?_ (fun _ _ => ?_)) | (with_reducible exact bk_pu pu_167 _) | (with_reducible exact bk_pu pu_177 _) | (with_reducible refine bk_pu (pu_170 hn ?_) _) | (with_reducible exact bk_pu (pu_175 hn) _) | (omega) | (decide))
    have hky := key 1 _ s4 t4 (Or.inr rfl) (by omega) hE6 o5 o6 H4
    unfold tkC at hky
    rw [nx8, gnar1] at hky
    exact hky
  · rw [zone_0 h137, if_pos rfl] at H3 ⊢
    rw [if_neg (show ¬ tkKind U len (tkNx U len (tkNx U len (tkNx U len q))) = 137 from h137), yb1_s]
    unfold f168_235 f168_236 at H3 ⊢
    rw [if_pos z8, nx8, gnar0] at H3 ⊢
    refine Rs_zm ?_
    replace H3 := Hb_z H3
    rw [if_pos z8, if_pos (show (sI (sI t3 (y + 8) (cnt 8) (nI v)) (y + 9) (cnt 8) 0).1 (y + 9) (cnt 8) = 0 from hIe)] at H3 ⊢
    have hE5 : ER U len x y s0 t0 K np tz G nb (4 * na) (tkNx U len (tkNx U len (tkNx U len q))) 0 nd cd us s3 (sI (sI t3 (y + 8) (cnt 8) (nI v)) (y + 9) (cnt 8) 0) := ER_wW hS (by omega) hE4
    have hky := key 0 _ s3 _ (Or.inl rfl) (by omega) hE5 ⟨fun _ _ => ⟨rfl, rfl, rfl⟩, rfl⟩ ⟨fun _ _ => ⟨rfl, rfl, rfl⟩, fun _ _ _ _ _ _ => rfl, fun _ _ => rfl, rfl⟩ H3
    unfold tkC at hky
    rw [nx8, gnar0] at hky
    exact hky
end ZRH
