/-! declarations, both readers: a proc -/
section ZRK
variable {U : Nat → Nat} {len x y n K np bl ub q dp nd cd us es na nb q2 p m N c : Nat} {s0 t0 tz s t s2 t2 s3 t3 sB tB : zσ} {G G2 : Nat → Nat → Nat} {cnt cnt2 : Nat → Nat}
theorem ER_np {np2 : Nat} (h : ER U len x y s0 t0 K np tz G bl ub q dp nd cd us s t) (hK : ¬ K = 1) : ER U len x y s0 t0 K np2 tz G2 bl ub q dp nd cd us s t := by
  obtain ⟨a1, a2, a3, a4, a5, a6, a7, -⟩ := h
  exact ⟨a1, a2, a3, a4, a5, a6, a7, fun e => absurd e hK⟩
/-- the end of a proc: out of its block -/
theorem ER_out {bl2 : Nat} (hS : S0 U len x y s0 t0) (h : ER U len x y s0 t0 K np tz G bl ub q dp nd cd us s t) : ER U len x y s0 t0 K np tz G2 bl2 ub q dp nd cd us (sI (sI s 1004 8 0) 1004 3 0) (sI t 1132 15 (-1)) := by
  have hx := hS.1
  have hy := hS.2.1
  obtain ⟨⟨a1, a1'⟩, ⟨a2, a2'⟩, a3, ⟨d1, d2, d3⟩, ⟨n1, n2, n3⟩, ⟨k1, k2, k3⟩, ⟨u1, u2⟩, a8⟩ := h
  refine ⟨⟨BC_I hx (by omega) (by omega) (BC_I hx (by omega) (by omega) a1), CG_I (by omega) (by omega) (by omega) (CG_I (by omega) (by omega) (by omega) a1')⟩, ⟨⟨GFm_I (by omega) hy a2.1, ?_⟩, MG_I (by omega) (by omega) a2'⟩, ?_, ⟨?_, ?_, d3⟩, ⟨?_, ?_, n3⟩, ⟨?_, ?_, k3⟩, ⟨?_, u2⟩, fun hK => ⟨Lt_I (by omega) (by omega) (by omega) (by omega) (a8 hK).1, (a8 hK).2.1, ?_, (a8 hK).2.2.2.1, Or.inl ⟨hIe, hIe⟩⟩⟩
  · rw [hIk (by decide)]; exact a2.2
  · rw [hIk (by decide), hIk (by decide)]; exact a3
  · rw [hIk (by decide), hIk (by decide)]; exact d1
  · rw [hIk (by decide)]; exact d2
  · rw [hIo (by omega), hIo (by omega)]; exact n1
  · rw [hIo (by omega)]; exact n2
  · rw [hIo (by omega), hIo (by omega)]; exact k1
  · rw [hIo (by omega)]; exact k2
  · rw [hIo (by omega)]; exact u1
  · rw [hIo (by omega), hIo (by omega)]; exact (a8 hK).2.2.1
theorem proc_ok (hn : 5000 ≤ n) (hS : S0 U len x y s0 t0) (hQ : HQ n U len x y s0 t0 K tz G 0) (hG : HG K y tz G) (hp7 : K = 1 → cnt 7 < G 6 7) (h : DR U len x y s0 t0 K (cnt 7) tz G cnt N q nd cd us es na nb s t) (hk : tkKind U len q = nI 135) (H : Hb (fun u => u) K (cnt 7 + 1) y tz (f168 n t)) : Rs (FC len x s0) (FM len y t0) (ZB K y tz) (fun a b => ∃ q2 nd2 cd2 us2 es2 na2 nb2, q + 1 ≤ q2 ∧ DR U len x y s0 t0 K (cnt 7 + 1) tz G (uN cnt 7 (cnt 7 + 1)) (N + 1) q2 nd2 cd2 us2 es2 na2 nb2 a b) (f33 n s) (f168 n t) := by
  have hx := hS.1
  have hy := hS.2.1
  have hK01 := hQ.2.2.2.2.2.1
  obtain ⟨hR, hP, hD, hV, hGD⟩ := id h
  have hE := hR.1
  obtain ⟨hq, hU, -⟩ := ER_q hE
  have hB : BPP n U len x y s0 t0 K (cnt 7 + 1) tz 0 (f40 n 20) (f181 n 20) := blk_all hn hS 19
  have hql := tk_lt hE (by rw [hk]; exact fun e => by have := (nIe (u := 135) (k := 3) (by omega) (by decide)).mp e; omega)
  have hgt := tkNx_gt (U := U) hql
  have h4 : q + 4 ≤ tkNx U len q := Nat.le_trans (w_len (w := 7) (L := 4) hU hq (by decide) hk zWd_4.2.2.2.2.1 (by decide) (by decide) (by decide)).1 zsk_ge
  have hyt := ER_y hS hE
  have em : f168 n t = yb0 (f164 n t) fun u4 => yb1 (f174 n (nI 7) u4) fun v6 u5 => yb1 (f167 n u5) fun v8 u7 => if v8 = (0 : Int32) then some u7 else yb0 (f179 n (nI 40) u7) fun u17 => prM n y v6 u17 := by
    unfold f168
    rw [hyt, grd (gck12 hy), (m_169 hn hE).1 7 (by decide) hk, yb1_s, if_neg (show ¬ nI 7 = (-1 : Int32) by decide)]
    simp only [if_neg (show ¬ nI 7 = (0 : Int32) by decide), if_neg (show ¬ nI 7 = (2 : Int32) by decide), if_pos (show nI 7 = (7 : Int32) by decide)]
    rfl
  have ecl : f33 n s = yb0 (f26 n s) fun u1 => yb1 (f34 n (nI 7) u1) fun v3 u2 => yb0 (f37 n (nI 40) u2) fun u4 => if (u4.1 1001 4) = (41 : Int32) then f33_37 n v3 (0 : Int32) u4 else f33_37 n v3 (1 : Int32) u4 := rfl
  obtain ⟨s1, x1, c1, o1⟩ := c_adv hn hE.1.2
  obtain ⟨t1, y1, c2, o2⟩ := m_next hn hE.2.1.2
  rw [y1, yb0_s] at em
  rw [x1, yb0_s] at ecl
  have hEw : ER U len x y s0 t0 (K + 4294967296) (cnt 7) tz G nb (4 * na) (tkNx U len q) 0 nd cd us s1 t1 := (er_tok hS (ER_fre hK01 hE) c1 o1 c2 (frT_N o2) (fun e => by omega)).2
  have hv1 : vF x y s t s1 t1 := vF_tok hx o1 o2
  have hD1 : DT x y K cnt N s1 t1 := DT_v hS hD hv1
  have hy1 : t1.2.2 1132 12 = some y := ER_y hS hEw
  have hc7m : cnt 7 ≤ 6 := hD.2.1.2.2.2.2.2
  have HT : Hb (fun u => u.2) K (cnt 7) y tz (f174 n (nI 7) t1) := fun hK => by
    obtain ⟨b, e, hb⟩ := H hK
    rw [em] at e
    rcases m_tell_c (c := 7) hn hS hEw (DT_W hD1) (by omega) with ⟨f, z, u, e3, g⟩ | ⟨u, e3, -⟩
    · have ne : ¬ u.1 1132 9 = 0 := by
        obtain ⟨a, -, b, c⟩ := g.2
        rw [a]; exact fun e => by have := (nIe (u := f) (k := 0) (by omega) (by decide)).mp e; omega
      rw [e3, yb1_s, m_goes0 ne, yb1_s, if_pos rfl] at e
      cases e
      exact absurd hb.1 ne
    · refine ⟨_, e3, ?_⟩
      rw [e3, yb1_s] at e
      have hyu : u.2.2 1132 12 = some y := ((b174 (np := cnt 7) (tz := tz) hn hy t1) _ e3 hy1).1
      have hp6 : cnt 7 < 6 := by
        rcases Nat.lt_or_ge (cnt 7) 6 with e | e
        · exact e
        · have := (hQ.2.2.2.2.2.2 hK); have := hp7 hK; omega
      have hb2 : bk (fun u => u) (LR (cnt 7) y tz) (yb1 (f167 n u) fun v8 u7 => if v8 = (0 : Int32) then some u7 else yb0 (f179 n (nI 40) u7) fun u17 => prM n y (nI (cnt 7)) u17) u := by
        repeat' (first | (with_reducible exact bM hn hy (Nat.le_refl _) hp6 _) | (with_reducible exact b195 hy) | (with_reducible exact b164 hy) | (with_reducible exact b196 hy) | (with_reducible exact b182 hy) | (with_reducible exact b179 hy) | (with_reducible exact b172 hy) | (with_reducible exact b173 hy (by decide)) | (with_reducible exact b189 hn hy) | (with_reducible exact b190 hn hy _) | (with_reducible exact b178 hy) | (with_reducible exact bk_none) | (with_reducible exact bk_some LR_rf) | (with_reducible refine bk_ite (fun _ => ?_) (fun _ => ?_)) | (with_reducible refine bk_rdL ?_) | (with_reducible refine bk_zS LR_tr (LR_I ?_ ?_ ?_ ?_) ?_) | (with_reducible refine bk_zS LR_tr (LR_J ?_ ?_) ?_) | (with_reducible refine bk_zV ?_) | (with_reducible refine bk_y0 LR_tr ?_ (fun _ => ?_)) | (with_reducible refine bk_y1 LR_tr ?_ (fun _ _ => ?_)) | (with_reducible exact bk_pu pu_167 _) | (with_reducible exact bk_pu pu_177 _) | (with_reducible refine bk_pu (pu_170 hn ?_) _) | (with_reducible exact bk_pu (pu_175 hn) _) | (omega) | (decide))
      exact ((hb2 b e) hyu).2 (Lt_le hb (by omega))
  have hE1 : ER U len x y s0 t0 K (cnt 7) tz G nb (4 * na) (tkNx U len q) 0 nd cd us s1 t1 := (er_tok hS hE c1 o1 c2 (frT_N o2) (fun hK => by
    obtain ⟨b, e, hb⟩ := HT hK
    exact ((b174 (np := cnt 7) (tz := tz) hn hy t1) _ e hy1).2 hb)).2
  rw [ecl, em]
  rcases tell_ok (c := 7) hn hS hK01 hE1 hD1 (by omega) HT with ⟨⟨v2, s2⟩, ⟨w2, t2⟩, e1, e2, hA⟩ | ⟨⟨v, a⟩, ⟨w, b⟩, f, z, e1, e2, ⟨e, hF⟩, hM⟩ | ⟨⟨v, a⟩, z, e1, hZ, ⟨e, hF⟩⟩
  rotate_left
  · have e : v = -1 := e
    subst e
    have hF : FC len x s0 f z a := hF
    have hM : FM len y t0 f z b := hM
    rw [e1, e2, yb1_s, yb1_s]
    exact Rs_B (fcs_37 hF (by decide) (fc_40p hn hS hB (Or.inl rfl) hF)) (fms_167 hM (fw_i1 rfl (fw_some hM)))
  · have e : v = -1 := e
    subst e
    have hF : FC len x s0 6 z a := hF
    rw [e1, yb1_s]
    exact Rs_C hZ (fcs_37 hF (by decide) (fc_40p hn hS hB (Or.inl rfl) hF))
  obtain ⟨⟨ev, ew⟩, hql1, hlim, hE2, hD2, hf2⟩ := hA
  have ev : v2 = nI (cnt 7) := ev
  have ew : w2 = nI (cnt 7) := ew
  subst ev
  subst ew
  have hE2 : ER U len x y s0 t0 K (cnt 7) tz G nb (4 * na) (tkNx U len (tkNx U len q)) 0 nd cd us s2 t2 := hE2
  have hD2 : DT x y K (uN cnt 7 (cnt 7 + 1)) (N + 1) s2 t2 := hD2
  have hf2 : tF x y s1 t1 s2 t2 := hf2
  have hgt1 := tkNx_gt (U := U) hql1
  have hp6 : cnt 7 < 6 := hlim
  have z6 : zin? (nI (cnt 7)) 6 = true := zin_nI hp6 (by decide)
  rw [em] at H
  rw [e2, yb1_s, m_goes hE2.2.1.2.2, yb1_s, if_neg n10] at H ⊢
  rw [e1, yb1_s]
  obtain ⟨wA, wB⟩ := want_eq (c := 40) hn hS (by decide) (by decide) hE2
  by_cases h40 : tkKind U len (tkNx U len (tkNx U len q)) = nI 40
  rotate_left
  · obtain ⟨f, z, s3, t3, r1, r2, r3, r4⟩ := wB h40
    rw [r1, r3, yb0_s, yb0_s]
    exact Rs_B (fc_40p hn hS hB (Or.inr z6) r2) (fm_M hn hS hB hp6 r4)
  obtain ⟨hql2, s3, t3, r1, r2, c3, o3, c4, o4⟩ := wA h40
  have hgt2 := tkNx_gt (U := U) hql2
  rw [r2, yb0_s] at H ⊢
  rw [r1, yb0_s]
  have hE3 : ER U len x y s0 t0 (K + 4294967296) (cnt 7) tz G nb (4 * na) (tkNx U len (tkNx U len (tkNx U len q))) 0 nd cd us s3 t3 := (er_tok hS (ER_fre hK01 hE2) c3 o3 c4 (frT_N o4) (fun e => by omega)).2
  have es3 : ∀ a, a ≠ 1001 → a ≠ 1005 → a ≠ x + 11 → s3.1 a = s.1 a := fun a p1 p2 p3 => ((o3.1 a p1).1.trans (hf2.1.1 a p1 p2 p3)).trans (o1.1 a p1).1
  have et3 : ∀ a, a ≠ 1132 → a ≠ y → a ≠ y + 2 → a ≠ y + 3 → a ≠ y + 4 → t3.1 a = t.1 a := fun a p1 p2 p3 p4 p5 => ((o4.1 a p1).1.trans (hf2.2.1 a p1 p2 p3 p4 p5)).trans (o2.1 a p1).1
  have ety : ∀ k, k ≠ 0 → t3.1 y k = t.1 y k := fun k hk => by rw [(o4.1 y (by omega)).1, hf2.2.2.2.2.1 k hk, (o2.1 y (by omega)).1]
  have hD3 : DT x y K (uN cnt 7 (cnt 7 + 1)) (N + 1) s3 t3 := DT_v hS hD2 (vF_tok hx o3 o4)
  have e03 : s3.1 1004 3 = 0 := by rw [es3 _ (by omega) (by omega) (by omega)]; exact hP.1
  have hPI : PI U len x y s0 t0 K (cnt 7) tz G nb (4 * na) nd cd us (cnt 7) s3 t3 0 (tkNx U len (tkNx U len (tkNx U len q))) s3 t3 := ⟨hE3, ⟨e03, by omega, fun k hk => by omega⟩, ⟨fun _ _ _ => rfl, fun _ _ => rfl, fun _ _ _ => rfl⟩, fun _ _ => rfl, fun _ _ _ _ _ _ => rfl, fun _ _ _ => rfl⟩
  have e180 : f180 n (nI (cnt 7)) t3 = f180_30 n n (nI (cnt 7)) y (nI 0) (if tkKind U len (tkNx U len (tkNx U len (tkNx U len q))) = nI 41 then 0 else 1) t3 := by
    unfold f180 f180_27 f180_28
    rw [ER_y hS hE3, grd (gck12 hy), m_goes hE3.2.1.2.2, yb1_s, if_neg n10, show f177 n 41 t3 = _ from tm_sign (c := 41) hE3.2.1.2.1 (by decide) (by decide), yb1_s]
    by_cases e : tkKind U len (tkNx U len (tkNx U len (tkNx U len q))) = nI 41
    · rw [zone_1 e, if_neg n10, if_pos e]; rfl
    · rw [zone_0 e, if_pos rfl, if_neg e]; rfl
  have e37 : (if (s3.1 1001 4) = (41 : Int32) then f33_37 n (nI (cnt 7)) (0 : Int32) s3 else f33_37 n (nI (cnt 7)) (1 : Int32) s3) = f33_40 n n (nI (cnt 7)) (if tkKind U len (tkNx U len (tkNx U len (tkNx U len q))) = nI 41 then 0 else 1) (nI 0) s3 := by
    rw [ER_k hE3]
    by_cases e : tkKind U len (tkNx U len (tkNx U len (tkNx U len q))) = nI 41
    · rw [if_pos (show tkKind U len (tkNx U len (tkNx U len (tkNx U len q))) = 41 from e), if_pos e]; rfl
    · rw [if_neg (show ¬ tkKind U len (tkNx U len (tkNx U len (tkNx U len q))) = 41 from e), if_neg e]; rfl
  unfold prM at H ⊢
  rw [e180] at H ⊢
  rw [e37]
  have hfl : (if tkKind U len (tkNx U len (tkNx U len (tkNx U len q))) = nI 41 then (0 : Int32) else 1) = 0 ∨ (if tkKind U len (tkNx U len (tkNx U len (tkNx U len q))) = nI 41 then (0 : Int32) else 1) = 1 := by split <;> simp
  rcases prm_L (v3 := nI (cnt 7)) hn hS hp6 4 0 _ s3 t3 _ n n rfl (by omega) (by omega) hfl hPI with ⟨s4, t4, m, q4, r3, r4, hI, hq4⟩ | ⟨f, z, s4, t4, r3, r4, r5, r6⟩
  rotate_left
  · rw [r3, r5, yb0_s]
    exact Rs_B (fc_66p hS hB (Or.inr z6) r4) (fm_N hS hB z6 r6)
  rw [r4, yb0_s] at H ⊢
  rw [r3, e_66]
  obtain ⟨hE4, ⟨i1, i2, i3⟩, ⟨i4, i5, i6⟩, i7, i8, i9⟩ := hI
  have hE4' : ER U len x y s0 t0 (K + 4294967296) (cnt 7) tz G nb (4 * na) q4 0 nd cd us s4 (sI t4 (y + 11) (cnt 7) (nI m)) := by
    obtain ⟨a1, ⟨a2, a2'⟩, a3, ⟨d1, d2, d3⟩, ⟨n1, n2, n3⟩, ⟨k1, k2, k3⟩, ⟨u1, u2⟩, -⟩ := hE4
    exact ⟨a1, ⟨⟨GFm_I (by omega) hy a2.1, by rw [hIo (by omega)]; exact a2.2⟩, MG_I (by omega) (by omega) a2'⟩, a3, ⟨d1, by rw [hIo (by omega)]; exact d2, d3⟩, ⟨n1, by rw [hIo (by omega)]; exact n2, n3⟩, ⟨k1, by rw [hIo (by omega)]; exact k2, k3⟩, ⟨by rw [hIo (by omega)]; exact u1, u2⟩, fun e => by omega⟩
  obtain ⟨wA, wB⟩ := want_eq (c := 41) hn hS (by decide) (by decide) hE4'
  unfold prN at H ⊢
  by_cases h41 : tkKind U len q4 = nI 41
  rotate_left
  · obtain ⟨f, z, s5, t5, r5, r6, r7, r8⟩ := wB h41
    rw [show f37 n 41 s4 = _ from r5, show f179 n 41 (sI t4 (y + 11) (cnt 7) (nI m)) = _ from r7, yb0_s, yb0_s]
    refine Rs_B (f := f) (z := z) (fcs_I r6 hx (by omega) (by omega) (by omega) (fun h2 => ?_)) (fms_I r8 hy (by omega) (fun h2 => fm_O hS hB z6 h2))
    rw [hB.2.1 f z _ _ _ h2, yb1_s]
    exact fc_pr hS (Or.inr z6) h2
  obtain ⟨hql4, s5, t5, r5, r6, c5, o5, c6, o6⟩ := wA h41
  have hgt4 := tkNx_gt (U := U) hql4
  rw [show f179 n 41 (sI t4 (y + 11) (cnt 7) (nI m)) = _ from r6, yb0_s] at H ⊢
  rw [show f37 n 41 s4 = _ from r5, yb0_s]
  refine Rs_zm (Rs_zc ?_)
  replace H := Hb_z H
  have hE5 : ER U len x y s0 t0 (K + 4294967296) (cnt 7) tz G nb (4 * na) (tkNx U len q4) 0 nd cd us s5 t5 := (er_tok hS hE4' c5 o5 c6 (frT_N o6) (fun e => by omega)).2
  have hm7 : K = 1 → Lt (cnt 7 + 1) y (sI t5 1132 15 (nI (cnt 7))) tz := fun hK => by
    obtain ⟨b, e, hb⟩ := H hK
    have h5y : t5.2.2 1132 12 = some y := ER_y hS hE5
    exact ((bO (np := cnt 7 + 1) (tz := tz) hn hy _) b e h5y).2 hb
  obtain ⟨s6, hs6⟩ : ∃ u, u = sI s5 1004 8 1 := ⟨_, rfl⟩
  obtain ⟨t7, ht7⟩ : ∃ u, u = sI t5 1132 15 (nI (cnt 7)) := ⟨_, rfl⟩
  have hy7 : t7.2.2 1132 12 = some y := by
    have h5y : t5.2.2 1132 12 = some y := ER_y hS hE5
    rw [ht7]; exact h5y
  rw [← ht7] at H hm7 ⊢
  rw [← hs6]
  have es6 : ∀ a, a ≠ 1001 → a ≠ 1004 → s6.1 a = s3.1 a := fun a p1 p2 => by rw [hs6, hIo p2, (o5.1 a p1).1]; exact i4 a p1 p2
  have esS : ∀ a, a ≠ 1001 → a ≠ 1004 → a ≠ 1005 → a ≠ x + 11 → s6.1 a = s.1 a := fun a p1 p2 p3 p4 => (es6 a p1 p2).trans (es3 a p1 p3 p4)
  have e64 : ∀ k, k ≠ 3 → k ≠ 8 → s6.1 1004 k = s.1 1004 k := fun k p1 p2 => by rw [hs6, hIk p2, (o5.1 1004 (by decide)).1, i5 k p1, es3 _ (by omega) (by omega) (by omega)]
  have e63 : s6.1 1004 3 = nI m := by rw [hs6, hIk (by decide), (o5.1 1004 (by decide)).1]; exact i1
  have e68 : s6.1 1004 8 = 1 := by rw [hs6]; exact hIe
  have l6 : ∀ a, a ≠ 1001 → a ≠ 1006 → s6.2.1 a = s3.2.1 a := fun a p1 p2 => by rw [hs6]; exact (o5.1 a p1).2.1.trans (i6 a p1 p2)
  have l66 : s6.2.1 1006 = s4.2.1 1006 := by rw [hs6]; exact (o5.1 1006 (by decide)).2.1
  have et5 : ∀ a, a ≠ 1132 → a ≠ y + 11 → t7.1 a = t3.1 a := fun a p1 p2 => by rw [ht7, hIo p1, (o6.1 a p1).1, hIo p2]; exact i7 a p1
  have et : ∀ a, a ≠ 1132 → a ≠ y → a ≠ y + 2 → a ≠ y + 3 → a ≠ y + 4 → a ≠ y + 11 → t7.1 a = t.1 a := fun a p1 p2 p3 p4 p5 p6 => (et5 a p1 p6).trans (et3 a p1 p2 p3 p4 p5)
  have ety7 : ∀ k, k ≠ 0 → t7.1 y k = t.1 y k := fun k hk => by rw [et5 y (by omega) (by omega)]; exact ety k hk
  have e711 : ∀ k, t7.1 (y + 11) k = if k = cnt 7 then nI m else t.1 (y + 11) k := fun k => by
    rw [ht7, hIo (by omega), (o6.1 _ (by omega)).1]
    by_cases e : k = cnt 7
    · rw [if_pos e, e]; exact hIe
    · rw [if_neg e, hIk e, i7 _ (by omega), et3 _ (by omega) (by omega) (by omega) (by omega) (by omega)]
  have e715 : t7.1 1132 15 = nI (cnt 7) := by rw [ht7]; exact hIe
  have l7 : ∀ a, a ≠ 1132 → a ≠ y + 12 → t7.2.1 a = t3.2.1 a := fun a p1 p2 => by rw [ht7]; exact (o6.1 a p1).2.1.trans (i9 a p1 p2)
  have l712 : t7.2.1 (y + 12) = t4.2.1 (y + 12) := by rw [ht7]; exact (o6.1 _ (by omega)).2.1
  have hD7 : DT x y K (uN cnt 7 (cnt 7 + 1)) (N + 1) s6 t7 := DT_fr hD3 (es6 _ (by omega) (by omega)) (es6 _ (by omega) (by omega)) (fun c hc => l6 _ (by omega) (by omega)) (et5 _ (by omega) (by omega)) (by rw [et5 y (by omega) (by omega)]) (et5 _ (by omega) (by omega)) (et5 _ (by omega) (by omega)) (l7 _ (by omega) (by omega))
  have gb := Gbl_b (G := G) (b := nb) (k := 1) (w := cnt 7) (l := 1) (rt := 8 + cnt 7) (st := nb)
  have hf : ∀ f k, f = 0 ∨ f = 6 ∨ f = 12 ∨ f = 13 → Gbl G nb 1 (cnt 7) 1 (8 + cnt 7) nb f k = G f k := fun f k hf => Gbl_o (by omega)
  have htz : K = 1 → tz.1 (y + 11) (cnt 7) = nI m ∧ G 12 (cnt 7) = m := fun hK => by
    have e1 := ((hm7 hK).2.2.2.2.2.2 (cnt 7) (by omega)).1
    rw [e711, if_pos rfl] at e1
    obtain ⟨g1, g2⟩ := (hG hK).2.2.2.2 _ (hp7 hK)
    exact ⟨e1.symm, (nI_eq (by omega) (by omega)).mp (g1.symm.trans e1.symm)⟩
  have hE7 : ER U len x y s0 t0 K (cnt 7 + 1) tz (Gbl G nb 1 (cnt 7) 1 (8 + cnt 7) nb) nb (4 * na) (tkNx U len q4) 0 nd cd us s6 t7 := by
    obtain ⟨⟨a1, a1'⟩, ⟨a2, a2'⟩, a3, ⟨d1, d2, d3⟩, ⟨n1, n2, n3⟩, ⟨k1, k2, k3⟩, ⟨u1, u2⟩, -⟩ := hE5
    rw [KW_I hK01] at a3
    refine ⟨by rw [hs6]; exact ⟨BC_I hx (by omega) (by omega) a1, CG_I (by omega) (by omega) (by omega) a1'⟩, by rw [ht7]; exact ⟨⟨GFm_I (by omega) hy a2.1, by rw [hIk (by decide)]; exact a2.2⟩, MG_I (by omega) (by omega) a2'⟩, by rw [hs6, hIk (by decide)]; exact a3, ⟨by rw [hs6, hIk (by decide)]; exact d1, by rw [ht7, hIk (by decide)]; exact d2, d3⟩, ⟨by rw [hs6, hIo (by omega)]; exact n1, by rw [ht7, hIo (by omega)]; exact n2, n3⟩, ⟨by rw [hs6, hIo (by omega)]; exact k1, by rw [ht7, hIo (by omega)]; exact k2, k3⟩, ⟨by rw [ht7, hIo (by omega)]; exact u1, u2⟩, fun hK => ?_⟩
    obtain ⟨-, x1, x2, x3, -⟩ := hE2.2.2.2.2.2.2.2 hK
    refine ⟨hm7 hK, x1, ?_, fun c hc => ?_, Or.inr ⟨cnt 7, m, hp6, by omega, i2, e63, e715, (htz hK).1, gb.2.2.2.1, ?_, fun k hk => ?_⟩⟩
    · rw [es6 _ (by omega) (by omega), (o3.1 _ (by omega)).1]; exact x2
    · rw [l6 _ (by omega) (by omega), (o3.1 _ (by omega)).2.1]; exact x3 c hc
    · rw [hf 12 _ (by omega)]; exact (htz hK).2
    · rw [l66, i3 k hk, ← l712]
      exact ((hm7 hK).2.2.2.2.2.2 (cnt 7) (by omega)).2 k (by omega)
  have hSR : SR U len x y s0 t0 K (cnt 7 + 1) tz (Gbl G nb 1 (cnt 7) 1 (8 + cnt 7) nb) nb (4 * na) (tkNx U len q4) 0 nd cd us es na nb s6 t7 := SR_pre hR hE7 (by omega) (fun k => hf 6 k (by omega)) (esS _ (by omega) (by omega) (by omega) (by omega)) (esS _ (by omega) (by omega) (by omega) (by omega)) ety7 (Or.inr ⟨e68, cnt 7, hp6, e715⟩) (e64 12 (by decide) (by decide)) (et _ (by omega) (by omega) (by omega) (by omega) (by omega) (by omega)) (fun hK p hp => by rw [esS _ (by omega) (by omega) (by omega) (by omega)]; exact hR.2.2.2.2.2.2 hK p hp)
  have h6 := hR.2.2.1.2.2
  unfold prO at H ⊢
  refine st11 H hy7 (b181 hn hy _ _) (fun v u => ?_) (hB.1 (Gbl G nb 1 (cnt 7) 1 (8 + cnt 7) nb) _ 0 nd cd us es na nb s6 t7 1 (nI (cnt 7)) (Nat.zero_le _) (HQ_G hQ (fun k => hf 6 k (by omega)) (fun k => hf 13 k (by omega))) (HG_G hG (fun k => hf 0 k (by omega)) (fun k => hf 6 k (by omega)) (fun k => hf 12 k (by omega))) hSR (by omega) (fun hK => ⟨by rw [gb.1]; rfl, by rw [gb.2.1], gb.2.2.1, by rw [gb.1]; omega⟩)) (fun f z v a hF => ?_) (fun f z w b hM => ?_) (fun v5 s8 w5 t9 hA H5 => ?_)
  · repeat' (first | (with_reducible exact b195 hy) | (with_reducible exact b164 hy) | (with_reducible exact b196 hy) | (with_reducible exact b182 hy) | (with_reducible exact b179 hy) | (with_reducible exact b172 hy) | (with_reducible exact b173 hy (by decide)) | (with_reducible exact b189 hn hy) | (with_reducible exact b190 hn hy _) | (with_reducible exact b178 hy) | (with_reducible exact bk_none) | (with_reducible exact bk_some LR_rf) | (with_reducible refine bk_ite (fun _ => ?_) (fun _ => ?_)) | (with_reducible refine bk_rdL ?_) | (with_reducible refine bk_zS LR_tr (LR_I ?_ ?_ ?_ ?_) ?_) | (with_reducible refine bk_zS LR_tr (LR_J ?_ ?_) ?_) | (with_reducible refine bk_zV ?_) | (with_reducible refine bk_y0 LR_tr ?_ (fun _ => ?_)) | (with_reducible refine bk_y1 LR_tr ?_ (fun _ _ => ?_)) | (with_reducible exact bk_pu pu_167 _) | (with_reducible exact bk_pu pu_177 _) | (with_reducible refine bk_pu (pu_170 hn ?_) _) | (with_reducible exact bk_pu (pu_175 hn) _) | (omega) | (decide))
  · exact fc_pr hS (Or.inr z6) hF.2
  · have hM2 : FM len y t0 f z b := hM
    exact fw_i1 z6 (fms_I hM2 hy (by omega) (fun h2 => fms_I h2 hy (by omega) (fun h3 => fw_some h3)))
  obtain ⟨⟨ev, ew⟩, q8, nd8, cd8, us8, es8, na8, nb8, ⟨l1, l2, l3, l4⟩, hR8, ⟨hLC, hLM⟩, hDa⟩ := hA
  have ev : v5 = nI nb := ev
  have ew : w5 = nI nb := ew
  subst ev
  subst ew
  have hR8 : SR U len x y s0 t0 K (cnt 7 + 1) tz (Gbl G nb 1 (cnt 7) 1 (8 + cnt 7) nb) nb (4 * na8) q8 0 nd8 cd8 us8 es8 na8 nb8 s8 t9 := hR8
  have hLC : LC x K na nb cd s6 s8 := hLC
  have hLM : LM y na nb t7 t9 := hLM
  have e83 : s8.1 1004 3 = nI m := (hLC.2.2.2.1 3 (by decide) (by decide) (by decide) (by decide)).trans e63
  have nx7 : nx (nI (cnt 7)) = cnt 7 := nx_nI (by omega)
  rw [if_pos z6, nx7] at H5 ⊢
  refine Rs_A (pr_end hS hR8.1.1.1 hp6) rfl ?_
  rw [e83]
  have gC : ∀ a, a ≠ 1004 → a ≠ x + 17 → a ≠ x + 18 → (sI (sI (sI (sI s8 (x + 18) (cnt 7) (nI m)) (x + 17) (cnt 7) (nI nb)) 1004 8 0) 1004 3 0).1 a = s8.1 a := fun a p1 p2 p3 => by rw [hIo p1, hIo p1, hIo p2, hIo p3]
  have gC4 : ∀ k, k ≠ 3 → k ≠ 8 → (sI (sI (sI (sI s8 (x + 18) (cnt 7) (nI m)) (x + 17) (cnt 7) (nI nb)) 1004 8 0) 1004 3 0).1 1004 k = s8.1 1004 k := fun k p1 p2 => by rw [hIk p1, hIk p2, hIo (by omega), hIo (by omega)]
  have gM : ∀ a, a ≠ 1132 → a ≠ y + 10 → (sI (sI t9 (y + 10) (cnt 7) (nI nb)) 1132 15 (-1)).1 a = t9.1 a := fun a p1 p2 => by rw [hIo p1, hIo p2]
  have g17 : ∀ k, (sI (sI (sI (sI s8 (x + 18) (cnt 7) (nI m)) (x + 17) (cnt 7) (nI nb)) 1004 8 0) 1004 3 0).1 (x + 17) k = if k = cnt 7 then nI nb else s8.1 (x + 17) k := fun k => by
    rw [hIo (by omega), hIo (by omega)]
    by_cases e : k = cnt 7
    · rw [if_pos e, e]; exact hIe
    · rw [if_neg e, hIk e, hIo (by omega)]
  have g18 : ∀ k, (sI (sI (sI (sI s8 (x + 18) (cnt 7) (nI m)) (x + 17) (cnt 7) (nI nb)) 1004 8 0) 1004 3 0).1 (x + 18) k = if k = cnt 7 then nI m else s8.1 (x + 18) k := fun k => by
    rw [hIo (by omega), hIo (by omega), hIo (by omega)]
    by_cases e : k = cnt 7
    · rw [if_pos e, e]; exact hIe
    · rw [if_neg e, hIk e]
  have m10 : ∀ k, (sI (sI t9 (y + 10) (cnt 7) (nI nb)) 1132 15 (-1)).1 (y + 10) k = if k = cnt 7 then nI nb else t9.1 (y + 10) k := fun k => by
    rw [hIo (by omega)]
    by_cases e : k = cnt 7
    · rw [if_pos e, e]; exact hIe
    · rw [if_neg e, hIk e]
  have f8 : (sI (sI (sI (sI s8 (x + 18) (cnt 7) (nI m)) (x + 17) (cnt 7) (nI nb)) 1004 8 0) 1004 3 0).1 1004 8 = 0 := by rw [hIk (by decide)]; exact hIe
  have s8s : ∀ a, a ≠ 1001 → a ≠ 1004 → a ≠ 1005 → a ≠ x + 11 → a < x + 19 → s8.1 a = s.1 a := fun a p1 p2 p3 p4 p5 => (hLC.1 a p1 p2 (Or.inl p5)).trans (esS a p1 p2 p3 p4)
  have t9t : ∀ a, y + 5 ≤ a → a < y + 13 → t9.1 a = t7.1 a := fun a p1 p2 => hLM.1 a (by omega) (by omega) (Or.inl p2)
  have hE9 := ER_out (G2 := G) (bl2 := nb8) hS (ER_wW (a := y + 10) (k := cnt 7) (v := nI nb) hS (by omega) (ER_wV (a := x + 17) (k := cnt 7) (v := nI nb) hS (by omega) (ER_wV (a := x + 18) (k := cnt 7) (v := nI m) hS (by omega) hR8.1)))
  refine ⟨q8, nd8, cd8, us8, es8, na8, nb8, by omega, SR_pre hR8 hE9 (Nat.le_refl _) (fun k => (hf 6 k (by omega)).symm) (gC _ (by omega) (by omega) (by omega)) (gC _ (by omega) (by omega) (by omega)) (fun k _ => by rw [gM _ (by omega) (by omega)]) (Or.inl ⟨f8, hIe⟩) (gC4 12 (by decide) (by decide)) (gM _ (by omega) (by omega)) (fun hK p hp => ?_), ⟨hIe, hIe, f8⟩, ?_, ?_, ?_⟩
  · rw [g18]
    by_cases e : p = cnt 7
    · rw [if_pos e, e]; exact (htz hK).1.symm
    · rw [if_neg e]; exact hR8.2.2.2.2.2.2 hK p hp
  · exact DT_fr (DT_L hx hy hD7 hLC hLM) (gC _ (by omega) (by omega) (by omega)) (gC _ (by omega) (by omega) (by omega)) (fun c hc => rfl) (gM _ (by omega) (by omega)) (by rw [gM _ (by omega) (by omega)]) (gM _ (by omega) (by omega)) (gM _ (by omega) (by omega)) rfl
  · refine DV_blk hV (by omega) ⟨?_, ?_, ?_, ?_⟩ ⟨rfl, rfl⟩ (fun k hk => ⟨?_, ?_, ?_, ?_, ?_, ?_⟩) (fun k hk => ⟨?_, ?_, ?_, ?_⟩) (fun k hk hk2 => absurd hk hk2) (fun k hk hk2 => ?_)
    · rw [gC _ (by omega) (by omega) (by omega), s8s _ (by omega) (by omega) (by omega) (by omega) (by omega)]
    · rw [gC _ (by omega) (by omega) (by omega), s8s _ (by omega) (by omega) (by omega) (by omega) (by omega)]
    · rw [gM _ (by omega) (by omega), t9t _ (by omega) (by omega), et _ (by omega) (by omega) (by omega) (by omega) (by omega) (by omega)]
    · rw [gM _ (by omega) (by omega), t9t _ (by omega) (by omega), et _ (by omega) (by omega) (by omega) (by omega) (by omega) (by omega)]
    · rw [gC _ (by omega) (by omega) (by omega), s8s _ (by omega) (by omega) (by omega) (by omega) (by omega)]
    · rw [gC _ (by omega) (by omega) (by omega), s8s _ (by omega) (by omega) (by omega) (by omega) (by omega)]
    · rw [gC _ (by omega) (by omega) (by omega), s8s _ (by omega) (by omega) (by omega) (by omega) (by omega)]
    · rw [gM _ (by omega) (by omega), t9t _ (by omega) (by omega), et _ (by omega) (by omega) (by omega) (by omega) (by omega) (by omega)]
    · rw [gM _ (by omega) (by omega), t9t _ (by omega) (by omega), et _ (by omega) (by omega) (by omega) (by omega) (by omega) (by omega)]
    · rw [gM _ (by omega) (by omega), t9t _ (by omega) (by omega), et _ (by omega) (by omega) (by omega) (by omega) (by omega) (by omega)]
    · rw [g17, if_neg (by omega), s8s _ (by omega) (by omega) (by omega) (by omega) (by omega)]
    · rw [g18, if_neg (by omega), s8s _ (by omega) (by omega) (by omega) (by omega) (by omega)]
    · rw [m10, if_neg (by omega), t9t _ (by omega) (by omega), et _ (by omega) (by omega) (by omega) (by omega) (by omega) (by omega)]
    · rw [gM _ (by omega) (by omega), t9t _ (by omega) (by omega), e711, if_neg (by omega)]
    · have hk : k < cnt 7 + 1 := hk
      have : k = cnt 7 := by omega
      subst this
      refine ⟨⟨by rw [g17, if_pos rfl], by rw [m10, if_pos rfl]⟩, m, i2, by rw [g18, if_pos rfl], ?_⟩
      rw [gM _ (by omega) (by omega), t9t _ (by omega) (by omega), e711, if_pos rfl]
  · refine GD_blk hGD (fun a p1 p2 => esS a (by omega) (by omega) (by omega) (by omega)) (fun a p1 p2 => et a (by omega) (by omega) (by omega) (by omega) (by omega) (by omega)) (e64 12 (by decide) (by decide)) hLC hLM ⟨l2, l3, l4⟩ hDa (fun a p1 p2 => gC a (by omega) (by omega) (by omega)) (fun a p1 p2 => gM a (by omega) (by omega)) (gC4 12 (by decide) (by decide)) (fun k hk => ?_) (fun k hk => ?_) (Or.inr ⟨rfl, rfl, rfl, rfl, rfl, by rw [g17, if_pos rfl]⟩)
    · rw [gC _ (by omega) (by omega) (by omega), s8s _ (by omega) (by omega) (by omega) (by omega) (by omega)]
    · rw [g17, if_neg (by omega), s8s _ (by omega) (by omega) (by omega) (by omega) (by omega)]
end ZRK
