/-! declarations, both readers: one thing, whole -/
section ZRF
variable {U : Nat → Nat} {len x y n K np bl ub q dp nd cd us es na nb q2 N N2 c : Nat} {s0 t0 tz s t s2 t2 s3 t3 : zσ} {G : Nat → Nat → Nat} {cnt cnt2 : Nat → Nat}
/-- what a declaration without a block leaves -/
def aF (x y : Nat) (s t s2 t2 : zσ) : Prop := ((∀ a, a ≠ 1001 → a ≠ 1004 → a ≠ 1005 → a ≠ x + 11 → a ≠ x + 12 → a ≠ x + 13 → s2.1 a = s.1 a) ∧ (∀ k, k ≠ 10 → k ≠ 11 → s2.1 1004 k = s.1 1004 k)) ∧ ((∀ a, a ≠ 1132 → a ≠ y → ¬ (y + 2 ≤ a ∧ a ≤ y + 6) → t2.1 a = t.1 a) ∧ (∀ k, k ≠ 0 → t2.1 y k = t.1 y k) ∧ (∀ k, k ≠ 3 → k ≠ 4 → k ≠ 5 → k ≠ 7 → k ≠ 8 → k ≠ 9 → k ≠ 10 → t2.1 1132 k = t.1 1132 k))
theorem aF_v (hy : y = 1134 ∨ y = 1170) (h : vF x y s t s2 t2) : aF x y s t s2 t2 := ⟨⟨fun a p q _ _ u v => h.1.1 a p q u v, h.1.2.2.2⟩, fun a p _ r => h.2.1 a p (by omega) (by omega), fun k _ => by rw [h.2.1 y (by omega) (by omega) (by omega)], h.2.2.2.2⟩
theorem aF_t (hx : x = 1060 ∨ x = 1096) (h : tF x y s t s2 t2) : aF x y s t s2 t2 := ⟨⟨fun a p _ r u _ _ => h.1.1 a p r u, fun k _ _ => by rw [h.1.1 1004 (by omega) (by omega) (by omega)]⟩, fun a p q r => h.2.1 a p q (by omega) (by omega) (by omega), h.2.2.2.2.1, h.2.2.2.2.2⟩
theorem aF_tr (h1 : aF x y s t s2 t2) (h2 : aF x y s2 t2 s3 t3) : aF x y s t s3 t3 := by
  obtain ⟨⟨a1, a2⟩, b1, b2, b3⟩ := h1
  obtain ⟨⟨c1, c2⟩, d1, d2, d3⟩ := h2
  exact ⟨⟨fun a p q r u v w => (c1 a p q r u v w).trans (a1 a p q r u v w), fun k p q => (c2 k p q).trans (a2 k p q)⟩, fun a p q r => (d1 a p q r).trans (b1 a p q r), fun k p => (d2 k p).trans (b2 k p), fun k p q r u v w z => (d3 k p q r u v w z).trans (b3 k p q r u v w z)⟩
theorem DT_v (hS : S0 U len x y s0 t0) (h : DT x y K cnt N s t) (o : vF x y s t s2 t2) : DT x y K cnt N s2 t2 := by
  have hx := hS.1
  have hy := hS.2.1
  obtain ⟨⟨o1, o2, -, -⟩, o3, o4, -, -⟩ := o
  have e5 := o1 1005 (by omega) (by omega) (by omega) (by omega)
  have e11 := o1 (x + 11) (by omega) (by omega) (by omega) (by omega)
  have f4 := o3 (y + 4) (by omega) (by omega) (by omega)
  have f0 := o3 y (by omega) (by omega) (by omega)
  have f2 := o3 (y + 2) (by omega) (by omega) (by omega)
  have f3 := o3 (y + 3) (by omega) (by omega) (by omega)
  have g1 := o4 (y + 1) (by omega)
  have gn : ∀ c, c < 9 → s2.2.1 (x + 2 + c) = s.2.1 (x + 2 + c) := fun c hc => o2 _ (by omega)
  unfold DT at h ⊢
  rw [e5, e11, f4, f0, f2, f3, g1]
  refine ⟨h.1, h.2.1, h.2.2.1, fun hK => ?_⟩
  obtain ⟨q1, q2, q3, q4⟩ := h.2.2.2 hK
  refine ⟨q1, fun k hk => ?_, fun c i hc hi => ?_, q4⟩
  · obtain ⟨c, i, p1, p2, p3, p4, p5⟩ := q2 k hk
    exact ⟨c, i, p1, p2, p3, p4, by rw [gn c p1]; exact p5⟩
  · obtain ⟨k, p1, p2, p3, p4⟩ := q3 c i hc hi
    exact ⟨k, p1, p2, p3, by rw [gn c hc]; exact p4⟩
theorem DR_a (hS : S0 U len x y s0 t0) (h : DR U len x y s0 t0 K np tz G cnt N q nd cd us es na nb s t) (hE : ER U len x y s0 t0 K np tz G nb (4 * na) q2 0 nd cd us s2 t2) (o : aF x y s t s2 t2) (hq : q ≤ q2) (hD : DT x y K cnt2 N2 s2 t2) (hV : DV x y nb cnt2 s2 t2) (h7 : cnt2 7 = cnt 7) (h8 : cnt2 8 = cnt 8) : DR U len x y s0 t0 K np tz G cnt2 N2 q2 nd cd us es na nb s2 t2 := by
  have hx := hS.1
  have hy := hS.2.1
  obtain ⟨⟨-, ⟨a1, a2, a3⟩, ⟨b1, b2, b3⟩, ⟨c1, c2⟩, d1, e1, f1⟩, ⟨k1, k2, k3⟩, -, -, hGD⟩ := h
  obtain ⟨⟨o1, o2⟩, o3, o4, o5⟩ := o
  have e15 : t2.1 1132 15 = t.1 1132 15 := o5 15 (by decide) (by decide) (by decide) (by decide) (by decide) (by decide) (by decide)
  refine ⟨⟨hE, ⟨?_, ?_, a3⟩, ⟨?_, ?_, by omega⟩, ⟨?_, c2⟩, ?_, MI_fr e1 (o2 12 (by decide) (by decide)) (fun u hu => ?_) (fun u a b => by omega) (Nat.le_refl _), fun hK p hp => ?_⟩, ⟨?_, ?_, ?_⟩, hD, hV, GD_fr hGD h7 h8 (fun a p1 p2 p3 p4 => o1 a (by omega) (by omega) (by omega) (by omega) (by omega) (by omega)) (fun a p1 p2 => o3 a (by omega) (by omega) (by omega)) (o2 12 (by decide) (by decide))⟩
  · rw [o1 (x + 19) (by omega) (by omega) (by omega) (by omega) (by omega) (by omega)]; exact a1
  · rw [o4 16 (by decide)]; exact a2
  · rw [o1 (x + 29) (by omega) (by omega) (by omega) (by omega) (by omega) (by omega)]; exact b1
  · rw [o4 13 (by decide)]; exact b2
  · rw [o4 28 (by decide)]; exact c1
  · rw [o2 8 (by decide) (by decide), e15]; exact d1
  · rw [o3 (y + 35) (by omega) (by omega) (by omega)]
  · rw [o1 (x + 18) (by omega) (by omega) (by omega) (by omega) (by omega) (by omega)]; exact f1 hK p hp
  · rw [o2 3 (by decide) (by decide)]; exact k1
  · rw [e15]; exact k2
  · rw [o2 8 (by decide) (by decide)]; exact k3
theorem DV_fr (h : DV x y nb cnt s t) (hs : ∀ a, x + 12 ≤ a → a ≤ x + 18 → s2.1 a = s.1 a) (ht : ∀ a, y + 5 ≤ a → a ≤ y + 11 → t2.1 a = t.1 a) : DV x y nb cnt s2 t2 := by
  unfold DV at h ⊢
  rw [hs (x + 12) (by omega) (by omega), hs (x + 13) (by omega) (by omega), hs (x + 14) (by omega) (by omega), hs (x + 15) (by omega) (by omega), hs (x + 16) (by omega) (by omega), hs (x + 17) (by omega) (by omega), hs (x + 18) (by omega) (by omega), ht (y + 5) (by omega) (by omega), ht (y + 6) (by omega) (by omega), ht (y + 7) (by omega) (by omega), ht (y + 8) (by omega) (by omega), ht (y + 9) (by omega) (by omega), ht (y + 10) (by omega) (by omega), ht (y + 11) (by omega) (by omega)]
  exact h
theorem vF_w {a b k j : Nat} {v w : Int32} (hx : x = 1060 ∨ x = 1096) (hy : y = 1134 ∨ y = 1170) (ha : a = x + 12 ∨ a = x + 13) (hb : b = y + 5 ∨ b = y + 6) : vF x y s t (sI s a k v) (sI t b j w) := ⟨⟨fun a' p q r u => hIo (by omega), fun _ _ => rfl, rfl, fun k' p q => by rw [hIo (by omega)]⟩, fun a' p q r => hIo (by omega), fun _ _ => rfl, rfl, fun k' _ _ _ _ _ _ _ => by rw [hIo (by omega)]⟩
theorem thing_ok (hn : 5000 ≤ n) (hS : S0 U len x y s0 t0) (hK01 : K ≤ 1) (h : DR U len x y s0 t0 K np tz G cnt N q nd cd us es na nb s t) (hc : c < 7) (hk : tkKind U len q = nI (128 + c)) (H : Hb (fun u => u) K np y tz (f168 n t)) : Rs (FC len x s0) (FM len y t0) (ZB K y tz) (fun a b => ∃ q2, q + 1 ≤ q2 ∧ DR U len x y s0 t0 K np tz G (uN cnt c (cnt c + 1)) (N + 1) q2 nd cd us es na nb a b) (f68 n (nI c) s) (f168 n t) := by
  have hx := hS.1
  have hy := hS.2.1
  obtain ⟨hR, hP, hD, hV, hGD⟩ := id h
  have hE := hR.1
  have hql := tk_lt hE (by rw [hk]; exact fun e => by have := (nIe (u := 128 + c) (k := 3) (by omega) (by decide)).mp e; omega)
  have hgt := tkNx_gt (U := U) hql
  have hcm : ¬ nI c = (-1 : Int32) := fun e => (neqM (by omega)).mp e
  have em : f168 n t = yb0 (f164 n t) fun u4 => yb1 (f174 n (nI c) u4) fun v6 u5 => yb1 (f167 n u5) fun v8 u7 => if v8 = (0 : Int32) then some u7 else (if nI c = (0 : Int32) then (if zin? v6 8 = true then zlet (sI u7 (y + 5) (nx v6) (0 : Int32)) fun u29 => yb1 (f177 n (61 : Int32) u29) fun v31 u30 => if v31 = (0 : Int32) then f168_108 n u30 else yb0 (f164 n u30) fun u32 => yb1 (f177 n (45 : Int32) u32) fun v34 u33 => if v34 = (0 : Int32) then f168_79 n y v6 v34 u33 else yb0 (f164 n u33) fun u35 => f168_79 n y v6 v34 u35 else none) else if nI c = (2 : Int32) then (yb1 (f178 n (0 : Int32) (9 : Int32) u7) fun v26 u25 => if zin? v6 4 = true then zlet (sI u25 (y + 6) (nx v6) v26) fun u27 => yb0 (f179 n (59 : Int32) u27) fun u28 => some u28 else none) else yb0 (f179 n (59 : Int32) u7) fun u9 => some u9) := by
    unfold f168
    rw [ER_y hS hE, grd (gck12 hy), (m_169 hn hE).1 c (by omega) hk, yb1_s, if_neg hcm]
    have e7 : ¬ nI c = (7 : Int32) := fun e => by have := (nIe (u := c) (k := 7) (by omega) (by decide)).mp e; omega
    have e8 : ¬ nI c = (8 : Int32) := fun e => by have := (nIe (u := c) (k := 8) (by omega) (by decide)).mp e; omega
    simp only [if_neg e7, if_neg e8]
  rw [em] at H ⊢
  unfold f68
  refine ev_n hn hS hE H (fun u => ?_) (fun s1 t1 hE1 o1 o2 hq1 H1 => ?_)
  · unfold f168_79 f168_107 f168_108
    repeat' (first | (with_reducible exact b174 hn hy _) | (with_reducible exact b195 hy) | (with_reducible exact b164 hy) | (with_reducible exact b196 hy) | (with_reducible exact b182 hy) | (with_reducible exact b179 hy) | (with_reducible exact b172 hy) | (with_reducible exact b173 hy (by decide)) | (with_reducible exact b189 hn hy) | (with_reducible exact b190 hn hy _) | (with_reducible exact b178 hy) | (with_reducible exact bk_none) | (with_reducible exact bk_some LR_rf) | (with_reducible refine bk_ite (fun _ => ?_) (fun _ => ?_)) | (with_reducible refine bk_rdL ?_) | (with_reducible refine bk_zS LR_tr (LR_I ?_ ?_ ?_ ?_) ?_) | (with_reducible refine bk_zS LR_tr (LR_J ?_ ?_) ?_) | (with_reducible refine bk_zV ?_) | (with_reducible refine bk_y0 LR_tr ?_ (fun _ => ?_)) | (with_reducible refine bk_y1 LR_tr ?_ (fun _ _ => ?_)) | (with_reducible exact bk_pu pu_167 _) | (with_reducible exact bk_pu pu_177 _) | (with_reducible refine bk_pu (pu_170 hn ?_) _) | (with_reducible exact bk_pu (pu_175 hn) _) | (omega) | (decide))
  have hv1 : vF x y s t s1 t1 := vF_tok hx o1 o2
  have hD1 := DT_v hS hD hv1
  refine st11 H1 (ER_y hS hE1) (b174 hn hy _) (fun v u => ?_) (tell_ok hn hS hK01 hE1 hD1 (by omega)) (fun f z v a hF => ?_) (fun f z w b hM => ?_) (fun v2 s2 w2 t2 hA H2 => ?_)
  · unfold f168_79 f168_107 f168_108
    repeat' (first | (with_reducible exact b195 hy) | (with_reducible exact b164 hy) | (with_reducible exact b196 hy) | (with_reducible exact b182 hy) | (with_reducible exact b179 hy) | (with_reducible exact b172 hy) | (with_reducible exact b173 hy (by decide)) | (with_reducible exact b189 hn hy) | (with_reducible exact b190 hn hy _) | (with_reducible exact b178 hy) | (with_reducible exact bk_none) | (with_reducible exact bk_some LR_rf) | (with_reducible refine bk_ite (fun _ => ?_) (fun _ => ?_)) | (with_reducible refine bk_rdL ?_) | (with_reducible refine bk_zS LR_tr (LR_I ?_ ?_ ?_ ?_) ?_) | (with_reducible refine bk_zS LR_tr (LR_J ?_ ?_) ?_) | (with_reducible refine bk_zV ?_) | (with_reducible refine bk_y0 LR_tr ?_ (fun _ => ?_)) | (with_reducible refine bk_y1 LR_tr ?_ (fun _ _ => ?_)) | (with_reducible exact bk_pu pu_167 _) | (with_reducible exact bk_pu pu_177 _) | (with_reducible refine bk_pu (pu_170 hn ?_) _) | (with_reducible exact bk_pu (pu_175 hn) _) | (omega) | (decide))
  · obtain ⟨e, hF⟩ := hF
    have e : v = -1 := e
    subst e
    exact fc_68r hS (by omega) hF
  · have hM2 : FM len y t0 f z b := hM
    exact fms_167 hM2 (fw_i1 rfl (fw_some hM2))
  obtain ⟨⟨ev, ew⟩, hql1, hlim, hE2, hD2, hf2⟩ := hA
  have ev : v2 = nI (cnt c) := ev
  have ew : w2 = nI (cnt c) := ew
  subst ev
  subst ew
  have hE2 : ER U len x y s0 t0 K np tz G nb (4 * na) (tkNx U len (tkNx U len q)) 0 nd cd us s2 t2 := hE2
  have hD2 : DT x y K (uN cnt c (cnt c + 1)) (N + 1) s2 t2 := hD2
  have hf2 : tF x y s1 t1 s2 t2 := hf2
  have hgt1 := tkNx_gt (U := U) hql1
  have ha2 := aF_tr (aF_v hy hv1) (aF_t hx hf2)
  rw [m_goes hE2.2.1.2.2, yb1_s, if_neg n10] at H2 ⊢
  have hc8 : cnt c ≤ 8 := (hD.1 c (by omega)).2.2
  have hcm2 : ¬ nI (cnt c) = -1 := fun e => (neqM (by omega)).mp e
  have hu : ∀ k, uN cnt c (cnt c + 1) k = if k = c then cnt c + 1 else cnt k := fun k => rfl
  have hi2 : uN cnt c (cnt c + 1) 7 = cnt 7 ∧ uN cnt c (cnt c + 1) 8 = cnt 8 := ⟨(hu 7).trans (if_neg (by omega)), (hu 8).trans (if_neg (by omega))⟩
  have esS : ∀ a, x + 12 ≤ a → a ≤ x + 18 → s2.1 a = s.1 a := fun a p1 p2 => (hf2.1.1 a (by omega) (by omega) (by omega)).trans (o1.1 a (by omega)).1
  have et : ∀ a, y + 5 ≤ a → a ≤ y + 11 → t2.1 a = t.1 a := fun a p1 p2 => (hf2.2.1 a (by omega) (by omega) (by omega) (by omega) (by omega)).trans (o2.1 a (by omega)).1
  have fin : ∀ (q3 : Nat) (s3 t3 : zσ), q + 1 ≤ q3 → ER U len x y s0 t0 K np tz G nb (4 * na) q3 0 nd cd us s3 t3 → vF x y s2 t2 s3 t3 → DV x y nb (uN cnt c (cnt c + 1)) s3 t3 → Hb (fun u => u) K np y tz (yb0 (f179 n 59 t3) fun u1 => some u1) → Rs (FC len x s0) (FM len y t0) (ZB K y tz) (fun a b => ∃ q2, q + 1 ≤ q2 ∧ DR U len x y s0 t0 K np tz G (uN cnt c (cnt c + 1)) (N + 1) q2 nd cd us es na nb a b) (f68_119 n s3) (yb0 (f179 n 59 t3) fun u1 => some u1) := fun q3 s3 t3 hq3 hE3 hv3 hV3 H3 => by
    refine Rs_w (ev_end hn hS hE3 H3) (fun a b _ _ hab => ?_)
    obtain ⟨r1, r2, r3, r4⟩ := hab
    have hvE := vF_tok (y := y) hx r3 r4
    exact ⟨_, by omega, DR_a hS h r2 (aF_tr ha2 (aF_tr (aF_v hy hv3) (aF_v hy hvE))) (by omega) (DT_v hS (DT_v hS hD2 hv3) hvE) (DV_fr hV3 (fun a p1 p2 => (r3.1 a (by omega)).1) (fun a p1 p2 => (r4.1 a (by omega)).1)) hi2.1 hi2.2⟩
  have add := fun (s3 t3 : zσ) => DV_add (s2 := s3) (t2 := t3) hV (show c < 9 by omega) hu (by omega)
  by_cases c0 : c = 0
  · subst c0
    rw [if_pos (show nI 0 = (0 : Int32) from rfl)] at H2 ⊢
    rw [if_pos (show nI 0 = (0 : Int32) from rfl)]
    have z8 : zin? (nI (cnt 0)) 8 = true := zin_nI (show cnt 0 < 8 from hlim) (by decide)
    have nx8 : nx (nI (cnt 0)) = cnt 0 := nx_nI (by omega)
    have vals : ∀ (s3 t3 : zσ) (v : Int32), (∀ a, x + 13 ≤ a → a ≤ x + 18 → s3.1 a = s2.1 a) → (∀ a, y + 6 ≤ a → a ≤ y + 11 → t3.1 a = t2.1 a) → (∀ k, k ≠ cnt 0 → s3.1 (x + 12) k = s2.1 (x + 12) k ∧ t3.1 (y + 5) k = t2.1 (y + 5) k) → s3.1 (x + 12) (cnt 0) = v → t3.1 (y + 5) (cnt 0) = v → DV x y nb (uN cnt 0 (cnt 0 + 1)) s3 t3 := fun s3 t3 v r1 r2 r3 r4 r5 => add s3 t3 (fun k hk => ⟨by rw [(r3 k (by omega)).1, esS _ (by omega) (by omega)], by rw [(r3 k (by omega)).2, et _ (by omega) (by omega)]⟩) (fun k hk => ⟨fun _ => by rw [r1 _ (by omega) (by omega), esS _ (by omega) (by omega)], fun _ => by rw [r2 _ (by omega) (by omega), et _ (by omega) (by omega)]⟩) (fun a p1 p2 => (r1 a (by omega) p2).trans (esS a (by omega) p2)) (fun a p1 p2 => (r2 a (by omega) p2).trans (et a (by omega) p2)) (fun _ => r4.trans r5.symm) (fun e => absurd e (by decide)) (fun e => absurd e (by decide))
    have hnum : ∀ (sg : Int32) (q3 : Nat) (s3 t3 : zσ), q + 1 ≤ q3 → ER U len x y s0 t0 K np tz G nb (4 * na) q3 0 nd cd us s3 t3 → vF x y s2 t2 s3 t3 → (∀ a, x + 13 ≤ a → a ≤ x + 18 → s3.1 a = s2.1 a) → (∀ a, y + 6 ≤ a → a ≤ y + 11 → t3.1 a = t2.1 a) → (∀ k, k ≠ cnt 0 → s3.1 (x + 12) k = s2.1 (x + 12) k ∧ t3.1 (y + 5) k = t2.1 (y + 5) k) → Hb (fun u => u) K np y tz (f168_79 n y (nI (cnt 0)) sg t3) → Rs (FC len x s0) (FM len y t0) (ZB K y tz) (fun a b => ∃ q2, q + 1 ≤ q2 ∧ DR U len x y s0 t0 K np tz G (uN cnt 0 (cnt 0 + 1)) (N + 1) q2 nd cd us es na nb a b) (f68_42 n (nI (cnt 0)) 1 sg s3) (f168_79 n y (nI (cnt 0)) sg t3) := fun sg q3 s3 t3 hq3 hE3 hv3 r1 r2 r3 H3 => by
      unfold f168_79 at H3 ⊢
      unfold f68_42
      rw [if_neg n10]
      refine st11 H3 (ER_y hS hE3) (b178 hy) (fun v u => ?_) (num_ok hn hS hE3) (fun f z v a hF => ?_) (fun f z w b hM => ?_) (fun v3 s4 w3 t4 hA H4 => ?_)
      · unfold f168_107 f168_108
        repeat' (first | (with_reducible exact b195 hy) | (with_reducible exact b164 hy) | (with_reducible exact b196 hy) | (with_reducible exact b182 hy) | (with_reducible exact b179 hy) | (with_reducible exact b172 hy) | (with_reducible exact b173 hy (by decide)) | (with_reducible exact b189 hn hy) | (with_reducible exact b190 hn hy _) | (with_reducible exact b178 hy) | (with_reducible exact bk_none) | (with_reducible exact bk_some LR_rf) | (with_reducible refine bk_ite (fun _ => ?_) (fun _ => ?_)) | (with_reducible refine bk_rdL ?_) | (with_reducible refine bk_zS LR_tr (LR_I ?_ ?_ ?_ ?_) ?_) | (with_reducible refine bk_zS LR_tr (LR_J ?_ ?_) ?_) | (with_reducible refine bk_zV ?_) | (with_reducible refine bk_y0 LR_tr ?_ (fun _ => ?_)) | (with_reducible refine bk_y1 LR_tr ?_ (fun _ _ => ?_)) | (with_reducible exact bk_pu pu_167 _) | (with_reducible exact bk_pu pu_177 _) | (with_reducible refine bk_pu (pu_170 hn ?_) _) | (with_reducible exact bk_pu (pu_175 hn) _) | (omega) | (decide))
      · obtain ⟨-, hF⟩ := hF
        exact fc_59 hS (Or.inr z8) hF
      · obtain ⟨-, hM⟩ := hM
        have hM2 : FM len y t0 f z b := hM
        unfold f168_107 f168_108
        refine fw_i (fun _ => ?_) (fun _ => ?_)
        · repeat' (first | (with_reducible assumption) | (with_reducible refine fw_some ?_) | (with_reducible exact ⟨rfl, by assumption⟩) | (with_reducible refine fms_rd hS (by assumption) ?_) | (with_reducible refine fms_167 (by assumption) ?_) | (with_reducible refine fms_173 (by assumption) ?_) | (with_reducible refine fms_172 (by assumption) ?_) | (with_reducible refine fms_179 (by assumption) ?_) | (with_reducible refine fms_164 hn hS (by assumption) (fun _ _ => ?_)) | (with_reducible refine fms_196 (by assumption) ?_) | (with_reducible refine fms_195 hS (by assumption) ?_) | (with_reducible refine fms_182 hS (by assumption) (fun _ _ => ?_)) | (with_reducible refine fms_189 (by assumption) ?_) | (with_reducible refine fms_190 (by assumption) ?_) | (with_reducible refine fms_178 (by assumption) ?_) | (with_reducible refine fms_I (by assumption) hy ?_ (fun _ => ?_)) | (with_reducible refine fw_z ?_) | (with_reducible refine fw_i1 rfl ?_) | (with_reducible refine fw_i1 (by assumption) ?_) | (with_reducible refine fw_i0 (by assumption) ?_) | (refine fw_i0 (by decide) ?_) | (refine fw_i1 (by decide) ?_) | (omega) | (decide))
        · repeat' (first | (with_reducible assumption) | (with_reducible refine fw_some ?_) | (with_reducible exact ⟨rfl, by assumption⟩) | (with_reducible refine fms_rd hS (by assumption) ?_) | (with_reducible refine fms_167 (by assumption) ?_) | (with_reducible refine fms_173 (by assumption) ?_) | (with_reducible refine fms_172 (by assumption) ?_) | (with_reducible refine fms_179 (by assumption) ?_) | (with_reducible refine fms_164 hn hS (by assumption) (fun _ _ => ?_)) | (with_reducible refine fms_196 (by assumption) ?_) | (with_reducible refine fms_195 hS (by assumption) ?_) | (with_reducible refine fms_182 hS (by assumption) (fun _ _ => ?_)) | (with_reducible refine fms_189 (by assumption) ?_) | (with_reducible refine fms_190 (by assumption) ?_) | (with_reducible refine fms_178 (by assumption) ?_) | (with_reducible refine fms_I (by assumption) hy ?_ (fun _ => ?_)) | (with_reducible refine fw_z ?_) | (with_reducible refine fw_i1 rfl ?_) | (with_reducible refine fw_i1 (by assumption) ?_) | (with_reducible refine fw_i0 (by assumption) ?_) | (refine fw_i0 (by decide) ?_) | (refine fw_i1 (by decide) ?_) | (omega) | (decide))
      obtain ⟨v, ⟨v1, v2, v4, -, -⟩, hql3, hE4, o3, o4⟩ := hA
      have v2 : v3 = nI v := v2
      have v4 : w3 = nI v := v4
      subst v2
      subst v4
      have hvE := vF_tok (y := y) hx o3 o4
      have hgt3 := tkNx_gt (U := U) hql3
      have hend : ∀ w : Int32, Hb (fun u => u) K np y tz (f168_107 n w (nI (cnt 0)) (y + 5) t4) → Rs (FC len x s0) (FM len y t0) (ZB K y tz) (fun a b => ∃ q2, q + 1 ≤ q2 ∧ DR U len x y s0 t0 K np tz G (uN cnt 0 (cnt 0 + 1)) (N + 1) q2 nd cd us es na nb a b) (f68_87 n w (nI (cnt 0)) (x + 12) s4) (f168_107 n w (nI (cnt 0)) (y + 5) t4) := fun w H5 => by
        unfold f168_107 f168_108 at H5 ⊢
        unfold f68_87 f68_88
        rw [if_pos z8, nx8] at H5 ⊢
        rw [if_pos z8]
        refine Rs_zm (Rs_zc ?_)
        replace H5 := Hb_z H5
        refine fin _ _ _ (by omega) (ER_wW hS (Or.inl rfl) (ER_wV hS (by omega) hE4)) (vF_tr hv3 (vF_tr hvE (vF_w hx hy (Or.inl rfl) (Or.inl rfl)))) (vals _ _ w (fun a p1 p2 => ?_) (fun a p1 p2 => ?_) (fun k hk => ⟨?_, ?_⟩) hIe hIe) H5
        · rw [hIo (by omega), (o3.1 a (by omega)).1]; exact r1 a p1 p2
        · rw [hIo (by omega), (o4.1 a (by omega)).1]; exact r2 a p1 p2
        · rw [hIk hk, (o3.1 _ (by omega)).1]; exact (r3 k hk).1
        · rw [hIk hk, (o4.1 _ (by omega)).1]; exact (r3 k hk).2
      unfold f68_59
      rw [if_neg hcm2, (BC_rf hS hE4.1.1).1, grd (gck9 hx).1]
      by_cases e0 : sg = 0
      · rw [if_pos e0] at H4 ⊢
        rw [if_pos e0]
        exact hend _ H4
      · rw [if_neg e0] at H4 ⊢
        rw [if_neg e0]
        exact hend _ H4
    rw [if_pos z8, nx8] at H2 ⊢
    refine Rs_zm ?_
    replace H2 := Hb_z H2
    have hE3 : ER U len x y s0 t0 K np tz G nb (4 * na) (tkNx U len (tkNx U len q)) 0 nd cd us s2 (sI t2 (y + 5) (cnt 0) 0) := ER_wW hS (Or.inl rfl) hE2
    have hv3 : vF x y s2 t2 s2 (sI t2 (y + 5) (cnt 0) 0) := ⟨⟨fun _ _ _ _ _ => rfl, fun _ _ => rfl, rfl, fun _ _ _ => rfl⟩, fun a' p q r => hIo (by omega), fun _ _ => rfl, rfl, fun k' _ _ _ _ _ _ _ => by rw [hIo (by omega)]⟩
    have e61 : f177 n 61 (sI t2 (y + 5) (cnt 0) 0) = _ := tm_sign (c := 61) hE3.2.1.2.1 (by decide) (by decide)
    rw [e61, yb1_s] at H2 ⊢
    unfold f39
    rw [ER_k hE3]
    by_cases h61 : tkKind U len (tkNx U len (tkNx U len q)) = nI 61
    · rw [zone_1 h61, if_neg n10] at H2 ⊢
      rw [if_pos (show tkKind U len (tkNx U len (tkNx U len q)) = 61 from h61), as_10]
      refine ev_n hn hS hE3 H2 (fun u => ?_) (fun s4 t4 hE4 o3 o4 hq4 H4 => ?_)
      · unfold f168_79 f168_107 f168_108
        repeat' (first | (with_reducible exact b195 hy) | (with_reducible exact b164 hy) | (with_reducible exact b196 hy) | (with_reducible exact b182 hy) | (with_reducible exact b179 hy) | (with_reducible exact b172 hy) | (with_reducible exact b173 hy (by decide)) | (with_reducible exact b189 hn hy) | (with_reducible exact b190 hn hy _) | (with_reducible exact b178 hy) | (with_reducible exact bk_none) | (with_reducible exact bk_some LR_rf) | (with_reducible refine bk_ite (fun _ => ?_) (fun _ => ?_)) | (with_reducible refine bk_rdL ?_) | (with_reducible refine bk_zS LR_tr (LR_I ?_ ?_ ?_ ?_) ?_) | (with_reducible refine bk_zS LR_tr (LR_J ?_ ?_) ?_) | (with_reducible refine bk_zV ?_) | (with_reducible refine bk_y0 LR_tr ?_ (fun _ => ?_)) | (with_reducible refine bk_y1 LR_tr ?_ (fun _ _ => ?_)) | (with_reducible exact bk_pu pu_167 _) | (with_reducible exact bk_pu pu_177 _) | (with_reducible refine bk_pu (pu_170 hn ?_) _) | (with_reducible exact bk_pu (pu_175 hn) _) | (omega) | (decide))
      rw [if_neg n10]
      have hvE := vF_tok (y := y) hx o3 o4
      have e45 : f177 n 45 t4 = _ := tm_sign (c := 45) hE4.2.1.2.1 (by decide) (by decide)
      rw [e45, yb1_s] at H4 ⊢
      have w1 : ∀ a, x + 13 ≤ a → a ≤ x + 18 → s4.1 a = s2.1 a := fun a p1 p2 => (o3.1 a (by omega)).1
      have w2 : ∀ a, y + 6 ≤ a → a ≤ y + 11 → t4.1 a = t2.1 a := fun a p1 p2 => (o4.1 a (by omega)).1.trans (hIo (by omega))
      have w3 : ∀ k, k ≠ cnt 0 → s4.1 (x + 12) k = s2.1 (x + 12) k ∧ t4.1 (y + 5) k = t2.1 (y + 5) k := fun k hk => ⟨by rw [(o3.1 _ (by omega)).1], by rw [(o4.1 _ (by omega)).1, hIk hk]⟩
      rw [ER_k hE4]
      by_cases h45 : tkKind U len (tkNx U len (tkNx U len (tkNx U len q))) = nI 45
      · rw [zone_1 h45, if_neg n10] at H4 ⊢
        rw [if_pos (show tkKind U len (tkNx U len (tkNx U len (tkNx U len q))) = 45 from h45), as_10]
        refine ev_n hn hS hE4 H4 (fun u => ?_) (fun s5 t5 hE5 o5 o6 hq5 H5 => ?_)
        · unfold f168_79 f168_107 f168_108
          repeat' (first | (with_reducible exact b195 hy) | (with_reducible exact b164 hy) | (with_reducible exact b196 hy) | (with_reducible exact b182 hy) | (with_reducible exact b179 hy) | (with_reducible exact b172 hy) | (with_reducible exact b173 hy (by decide)) | (with_reducible exact b189 hn hy) | (with_reducible exact b190 hn hy _) | (with_reducible exact b178 hy) | (with_reducible exact bk_none) | (with_reducible exact bk_some LR_rf) | (with_reducible refine bk_ite (fun _ => ?_) (fun _ => ?_)) | (with_reducible refine bk_rdL ?_) | (with_reducible refine bk_zS LR_tr (LR_I ?_ ?_ ?_ ?_) ?_) | (with_reducible refine bk_zS LR_tr (LR_J ?_ ?_) ?_) | (with_reducible refine bk_zV ?_) | (with_reducible refine bk_y0 LR_tr ?_ (fun _ => ?_)) | (with_reducible refine bk_y1 LR_tr ?_ (fun _ _ => ?_)) | (with_reducible exact bk_pu pu_167 _) | (with_reducible exact bk_pu pu_177 _) | (with_reducible refine bk_pu (pu_170 hn ?_) _) | (with_reducible exact bk_pu (pu_175 hn) _) | (omega) | (decide))
        rw [if_neg n10]
        have hvE2 := vF_tok (y := y) hx o5 o6
        exact hnum 1 _ s5 t5 (by omega) hE5 (vF_tr hv3 (vF_tr hvE hvE2)) (fun a p1 p2 => (o5.1 a (by omega)).1.trans (w1 a p1 p2)) (fun a p1 p2 => (o6.1 a (by omega)).1.trans (w2 a p1 p2)) (fun k hk => ⟨by rw [(o5.1 _ (by omega)).1]; exact (w3 k hk).1, by rw [(o6.1 _ (by omega)).1]; exact (w3 k hk).2⟩) H5
      · rw [zone_0 h45, if_pos rfl] at H4 ⊢
        rw [if_neg (show ¬ tkKind U len (tkNx U len (tkNx U len (tkNx U len q))) = 45 from h45), yb1_s, if_pos rfl]
        unfold f68_41
        exact hnum 0 _ s4 t4 (by omega) hE4 (vF_tr hv3 hvE) w1 w2 w3 H4
    · rw [zone_0 h61, if_pos rfl] at H2 ⊢
      rw [if_neg (show ¬ tkKind U len (tkNx U len (tkNx U len q)) = 61 from h61), yb1_s, if_pos rfl]
      unfold f68_41 f68_42 f68_59 f68_87 f68_88
      unfold f168_108 at H2 ⊢
      rw [if_pos rfl, if_neg hcm2, (BC_rf hS hE2.1.1).1, grd (gck9 hx).1, if_pos rfl, if_pos z8, nx8]
      refine Rs_zc ?_
      refine fin _ _ _ (by omega) (ER_wV hS (by omega) hE3) (vF_w hx hy (Or.inl rfl) (Or.inl rfl)) (vals _ _ 0 (fun a p1 p2 => hIo (by omega)) (fun a p1 p2 => hIo (by omega)) (fun k hk => ⟨hIk hk, hIk hk⟩) hIe hIe) H2
  · have c0' : ¬ nI c = (0 : Int32) := fun e => c0 ((nIe (u := c) (k := 0) (by omega) (by decide)).mp e)
    rw [if_neg c0'] at H2 ⊢
    rw [if_neg c0']
    by_cases c2 : c = 2
    · subst c2
      rw [if_pos (show nI 2 = (2 : Int32) from rfl)] at H2 ⊢
      rw [if_pos (show nI 2 = (2 : Int32) from rfl)]
      have h24 : cnt 2 < 4 := hlim
      have z4 : zin? (nI (cnt 2)) 4 = true := zin_nI h24 (by decide)
      have nx4 : nx (nI (cnt 2)) = cnt 2 := nx_nI (by omega)
      refine st11 H2 (ER_y hS hE2) (b178 hy) (fun v u => ?_) (num_ok hn hS hE2) (fun f z v a hF => ?_) (fun f z w b hM => ?_) (fun v3 s3 w3 t3 hA H3 => ?_)
      · repeat' (first | (with_reducible exact b195 hy) | (with_reducible exact b164 hy) | (with_reducible exact b196 hy) | (with_reducible exact b182 hy) | (with_reducible exact b179 hy) | (with_reducible exact b172 hy) | (with_reducible exact b173 hy (by decide)) | (with_reducible exact b189 hn hy) | (with_reducible exact b190 hn hy _) | (with_reducible exact b178 hy) | (with_reducible exact bk_none) | (with_reducible exact bk_some LR_rf) | (with_reducible refine bk_ite (fun _ => ?_) (fun _ => ?_)) | (with_reducible refine bk_rdL ?_) | (with_reducible refine bk_zS LR_tr (LR_I ?_ ?_ ?_ ?_) ?_) | (with_reducible refine bk_zS LR_tr (LR_J ?_ ?_) ?_) | (with_reducible refine bk_zV ?_) | (with_reducible refine bk_y0 LR_tr ?_ (fun _ => ?_)) | (with_reducible refine bk_y1 LR_tr ?_ (fun _ _ => ?_)) | (with_reducible exact bk_pu pu_167 _) | (with_reducible exact bk_pu pu_177 _) | (with_reducible refine bk_pu (pu_170 hn ?_) _) | (with_reducible exact bk_pu (pu_175 hn) _) | (omega) | (decide))
      · obtain ⟨-, hF⟩ := hF
        have hF : FC len x s0 f z a := hF
        refine fw_i0 hcm2 (fcs_r4 hS hF (fw_i1 z4 (fcs_I hF hx (by omega) (by omega) (by omega) (fun h2 => fc_119 h2))))
      · obtain ⟨⟨u, u1, u2⟩, hM⟩ := hM
        have u2 : w = nI u := u2
        subst u2
        have hM2 := FM_6 (k := nx (nI (cnt 2))) hS u1 hM
        refine fw_i1 z4 (fw_z ?_)
        exact fms_179 hM2 (fw_some hM2)
      obtain ⟨v, ⟨v1, v2, v4, v5, v6⟩, hql3, hE3, r1, r2⟩ := hA
      have v2 : v3 = nI v := v2
      have v4 : w3 = nI v := v4
      subst v2
      subst v4
      have v9 : v ≤ 9 := by
        by_cases hgt9 : 9 < v
        · exact absurd (show (9 : Int32) < nI v from nI_lt (a := 9) hgt9 v1) v6
        · omega
      rw [if_pos z4, nx4] at H3 ⊢
      rw [if_neg hcm2, (BC_rf hS hE3.1.1).1, grd (gck9 hx).1, if_pos z4]
      refine Rs_zm (Rs_zc ?_)
      replace H3 := Hb_z H3
      have hvE := vF_tok (y := y) hx r1 r2
      refine fin _ _ _ ?_ (ER_wW hS (Or.inr (Or.inl ⟨rfl, v, v1, rfl⟩)) (ER_wV hS (by omega) hE3)) (vF_tr hvE (vF_w hx hy (Or.inr rfl) (Or.inr rfl))) (add _ _ ?_ ?_ ?_ ?_ ?_ ?_ ?_) H3
      · have := tkNx_gt (U := U) hql3; omega
      · exact fun k hk => ⟨by rw [hIo (by omega), (r1.1 _ (by omega)).1, esS _ (by omega) (by omega)], by rw [hIo (by omega), (r2.1 _ (by omega)).1, et _ (by omega) (by omega)]⟩
      · refine fun k hk => ⟨fun hne => ?_, fun hk2 => ?_⟩
        · rw [hIk (by omega), (r1.1 _ (by omega)).1, esS _ (by omega) (by omega)]
        · rw [hIk (by omega), (r2.1 _ (by omega)).1, et _ (by omega) (by omega)]
      · exact fun a p1 p2 => by rw [hIo (by omega), (r1.1 _ (by omega)).1, esS _ (by omega) (by omega)]
      · exact fun a p1 p2 => by rw [hIo (by omega), (r2.1 _ (by omega)).1, et _ (by omega) (by omega)]
      · exact fun e => absurd e (by decide)
      · exact fun _ => ⟨v, v9, hIe, hIe⟩
      · exact fun _ => h24
    · have c2' : ¬ nI c = (2 : Int32) := fun e => c2 ((nIe (u := c) (k := 2) (by omega) (by decide)).mp e)
      rw [if_neg c2'] at H2 ⊢
      rw [if_neg c2']
      refine fin _ _ _ (by omega) hE2 vF_rf (add _ _ (fun k hk => ⟨by rw [esS _ (by omega) (by omega)], by rw [et _ (by omega) (by omega)]⟩) (fun k hk => ⟨fun _ => by rw [esS _ (by omega) (by omega)], fun _ => by rw [et _ (by omega) (by omega)]⟩) (fun a p1 p2 => esS a (by omega) p2) (fun a p1 p2 => et a (by omega) p2) (fun e => absurd e c0) (fun e => absurd e c2) (fun e => absurd e c2)) H2
end ZRF
