/-! declarations, both readers: one thing, whole -/
section ZRF
variable {U : Nat → Nat} {len x y n K np bl ub q dp nd cd us es na nb q2 N N2 c : Nat} {s0 t0 tz s t s2 t2 s3 t3 : zσ} {G : Nat → Nat → Nat} {cnt cnt2 : Nat → Nat}
/-- what a declaration without a block leaves -/
def aF (x y : Nat) (s t s2 t2 : zσ) : Prop := ((∀ a, a ≠ 1001 → a ≠ 1004 → a ≠ 1005 → a ≠ x + 11 → a ≠ x + 12 → a ≠ x + 13 → s2.1 a = s.1 a) ∧ (∀ k, k ≠ 10 → k ≠ 11 → s2.1 1004 k = s.1 1004 k)) ∧ ((∀ a, a ≠ 1132 → a ≠ y → ¬ (y + 2 ≤ a ∧ a ≤ y + 6) → t2.1 a = t.1 a) ∧ (∀ k, k ≠ 0 → t2.1 y k = t.1 y k) ∧ (∀ k, k ≠ 3 → k ≠ 4 → k ≠ 5 → k ≠ 7 → k ≠ 8 → k ≠ 9 → k ≠ 10 → t2.1 1132 k = t.1 1132 k))
theorem aF_v (hy : y = 1134 ∨ y = 1170) (h : vF x y s t s2 t2) : aF x y s t s2 t2 := ⟨⟨fun a p q _ _ u v => h.1.1 a p q u v, h.1.2.2.2⟩, fun a p _ r => h.2.1 a p (by omega) (by omega), fun k _ => by rw [h.2.1 y (by omega) (by omega) (by omega)], h.2.2.2.2⟩
theorem aF_t (hx : x = 1060 ∨ x = 1096) (h : tF x y s t s2 t2) : aF x y s t s2 t2 := ⟨⟨fun a p _ r u _ _ => h.1.1 a p r u, fun k _ _ => by rw [h.1.1 1004 (by omega) (by omega) (by omega)]⟩, fun a p q r => h.2.1 a p q (by omega) (by omega) (by omega), h.2.2.2.2.1, h.2.2.2.2.2⟩
theorem aF_tr (h1 : aF x y s t s2 t2) (h2 : aF x y s2 t2 s3 t3) : aF x y s t s3 t3 := by
  obtain ⟨⟨a1, a2⟩, b1, b2, b3⟩ := h1
  obtain ⟨⟨c1, c2⟩, d1, d2, d3⟩ := h2
  exact ⟨⟨fun a p q r u v w => (c1 a p q r u v w).trans (a1 a p q r u v w), fun k p q => (c2 k p q).trans (a2 k p q)⟩, fun a p q r => (d1 a p q r).trans (b1 a p q r), fun k p => (d2 k p).trans (b2 k p), fun k p q r u v w z => (d3 k p q r u v w z).trans (b3 k p q r u v w z)⟩
theorem DT_v (hS : S0 U len x y s0 t0) (h : DT x y K cnt N s t) (o : vF x y s t s2 t2) : DT x y K cnt N s2 t2 := by
  have hx := hS.1
  have hy := hS.2.1
  obtain ⟨⟨o1, o2, -, -⟩, o3, o4, -, -⟩ := o
  have e5 := o1 1005 (by omega) (by omega) (by omega) (by omega)
  have e11 := o1 (x + 11) (by omega) (by omega) (by omega) (by omega)
  have f4 := o3 (y + 4) (by omega) (by omega) (by omega)
  have f0 := o3 y (by omega) (by omega) (by omega)
  have f2 := o3 (y + 2) (by omega) (by omega) (by omega)
  have f3 := o3 (y + 3) (by omega) (by omega) (by omega)
  have g1 := o4 (y + 1) (by omega)
  have gn : ∀ c, c < 9 → s2.2.1 (x + 2 + c) = s.2.1 (x + 2 + c) := fun c hc => o2 _ (by omega)
  unfold DT at h ⊢
  rw [e5, e11, f4, f0, f2, f3, g1]
  refine ⟨h.1, h.2.1, h.2.2.1, fun hK => ?_⟩
  obtain ⟨q1, q2, q3, q4⟩ := h.2.2.2 hK
  refine ⟨q1, fun k hk => ?_, fun c i hc hi => ?_, q4⟩
  · obtain ⟨c, i, p1, p2, p3, p4, p5⟩ := q2 k hk
    exact ⟨c, i, p1, p2, p3, p4, by rw [gn c p1]; exact p5⟩
  · obtain ⟨k, p1, p2, p3, p4⟩ := q3 c i hc hi
    exact ⟨k, p1, p2, p3, by rw [gn c hc]; exact p4⟩
theorem DR_a (hS : S0 U len x y s0 t0) (h : DR U len x y s0 t0 K np tz G cnt N q nd cd us es na nb s t) (hE : ER U len x y s0 t0 K np tz G nb (4 * na) q2 0 nd cd us s2 t2) (o : aF x y s t s2 t2) (hq : q ≤ q2) (hD : DT x y K cnt2 N2 s2 t2) (hV : DV x y nb cnt2 s2 t2) (h7 : cnt2 7 = cnt 7) (h8 : cnt2 8 = cnt 8) : DR U len x y s0 t0 K np tz G cnt2 N2 q2 nd cd us es na nb s2 t2 := by
  have hx := hS.1
  have hy := hS.2.1
  obtain ⟨⟨-, ⟨a1, a2, a3⟩, ⟨b1, b2, b3⟩, ⟨c1, c2⟩, d1, e1, f1⟩, ⟨k1, k2, k3⟩, -, -, hGD⟩ := h
  obtain ⟨⟨o1, o2⟩, o3, o4, o5⟩ := o
  have e15 : t2.1 1132 15 = t.1 1132 15 := o5 15 (by decide) (by decide) (by decide) (by decide) (by decide) (by decide) (by decide)
  refine ⟨⟨hE, ⟨?_, ?_, a3⟩, ⟨?_, ?_, by omega⟩, ⟨?_, c2⟩, ?_, MI_fr e1 (o2 12 (by decide) (by decide)) (fun u hu => ?_) (fun u a b => by omega) (Nat.le_refl _), fun hK p hp => ?_⟩, ⟨?_, ?_, ?_⟩, hD, hV, GD_fr hGD h7 h8 (fun a p1 p2 p3 p4 => o1 a (by omega) (by omega) (by omega) (by omega) (by omega) (by omega)) (fun a p1 p2 => o3 a (by omega) (by omega) (by omega)) (o2 12 (by decide) (by decide))⟩
  · rw [o1 (x + 19) (by omega) (by omega) (by omega) (by omega) (by omega) (by omega)]; exact a1
  · rw [o4 16 (by decide)]; exact a2
  · rw [o1 (x + 29) (by omega) (by omega) (by omega) (by omega) (by omega) (by omega)]; exact b1
  · rw [o4 13 (by decide)]; exact b2
  · rw [o4 28 (by decide)]; exact c1
  · rw [o2 8 (by decide) (by decide), e15]; exact d1
  · rw [o3 (y + 35) (by omega) (by omega) (by omega)]
  · rw [o1 (x + 18) (by omega) (by omega) (by omega) (by omega) (by omega) (by omega)]; exact f1 hK p hp
  · rw [o2 3 (by decide) (by decide)]; exact k1
  · rw [e15]; exact k2
  · rw [o2 8 (by decide) (by decide)]; exact k3
theorem thing_ok (hn : 5000 ≤ n) (hS : S0 U len x y s0 t0) (hK01 : K ≤ 1) (h : DR U len x y s0 t0 K np tz G cnt N q nd cd us es na nb s t) (hc : c < 7) (hk : tkKind U len q = nI (128 + c)) (H : Hb (fun u => u) K np y tz (f168 n t)) : Rs (FC len x s0) (FM len y t0) (ZB K y tz) (fun a b => ∃ q2, q + 1 ≤ q2 ∧ DR U len x y s0 t0 K np tz G (uN cnt c (cnt c + 1)) (N + 1) q2 nd cd us es na nb a b) (f68 n (nI c) s) (f168 n t) := by
  have hx := hS.1
  have hy := hS.2.1
  obtain ⟨hR, hP, hD, hV, hGD⟩ := id h
  have hE := hR.1
  have hql := tk_lt hE (by rw [hk]; exact fun e => by have := (nIe (u := 128 + c) (k := 3) (by omega) (by decide)).mp e; omega)
  have hgt := tkNx_gt (U := U) hql
  have hcm : ¬ nI c = (-1 : Int32) := fun e => (neqM (by omega)).mp e
  have em : f168 n t = yb0 (f164 n t) fun u4 => yb1 (f174 n (nI c) u4) fun v6 u5 => yb1 (f167 n u5) fun v8 u7 => if v8 = (0 : Int32) then some u7 else (if nI c = (0 : Int32) then (if zin? v6 8 = true then zlet (sI u7 (y + 5) (nx v6) (0 : Int32)) fun u29 => yb1 (f177 n (61 : Int32) u29) fun v31 u30 => if v31 = (0 : Int32) then f168_108 n u30 else yb0 (f164 n u30) fun u32 => yb1 (f177 n (45 : Int32) u32) fun v34 u33 => if v34 = (0 : Int32) then f168_79 n y v6 v34 u33 else yb0 (f164 n u33) fun u35 => f168_79 n y v6 v34 u35 else none) else if nI c = (2 : Int32) then (yb1 (f178 n (0 : Int32) (9 : Int32) u7) fun v26 u25 => if zin? v6 4 = true then zlet (sI u25 (y + 6) (nx v6) v26) fun u27 => yb0 (f179 n (59 : Int32) u27) fun u28 => some u28 else none) else yb0 (f179 n (59 : Int32) u7) fun u9 => some u9) := by
    unfold f168
    rw [ER_y hS hE, grd (gck12 hy), (m_169 hn hE).1 c (by omega) hk, yb1_s, if_neg hcm]
    have e7 : ¬ nI c = (7 : Int32) := fun e => by have := (nIe (u := c) (k := 7) (by omega) (by decide)).mp e; omega
    have e8 : ¬ nI c = (8 : Int32) := fun e => by have := (nIe (u := c) (k := 8) (by omega) (by decide)).mp e; omega
    simp only [if_neg e7, if_neg e8]
  rw [em] at H ⊢
  unfold f68
  refine ev_n hn hS hE H (fun u => ?_) (fun s1 t1 hE1 hv1 hq1 H1 => ?_)
  · unfold f168_79 f168_107 f168_108
    repeat' (first | (with_reducible exact b174 hn hy _) | (with_reducible exact b195 hy) | (with_reducible exact b164 hy) | (with_reducible exact b196 hy) | (with_reducible exact b182 hy) | (with_reducible exact b179 hy) | (with_reducible exact b172 hy) | (with_reducible exact b173 hy (by decide)) | (with_reducible exact b189 hn hy) | (with_reducible exact b190 hn hy _) | (with_reducible exact b178 hy) | (with_reducible exact bk_none) | (with_reducible exact bk_some LR_rf) | (with_reducible refine bk_ite (fun _ => ?_) (fun _ => ?_)) | (with_reducible refine bk_rdL ?_) | (with_reducible refine bk_zS LR_tr (LR_I ?_ ?_ ?_ ?_) ?_) | (with_reducible refine bk_zS LR_tr (LR_J ?_ ?_) ?_) | (with_reducible refine bk_zV ?_) | (with_reducible refine bk_y0 LR_tr ?_ (fun _ => ?_)) | (with_reducible refine bk_y1 LR_tr ?_ (fun _ _ => ?_)) | (with_reducible exact bk_pu pu_167 _) | (with_reducible exact bk_pu pu_177 _) | (with_reducible refine bk_pu (pu_170 hn ?_) _) | (with_reducible exact bk_pu (pu_175 hn) _) | (omega) | (decide))
  have hD1 := DT_v hS hD hv1
  refine st11 H1 (ER_y hS hE1) (b174 hn hy _) (fun v u => ?_) (tell_ok hn hS hK01 hE1 hD1 (by omega)) (fun f z v a hF => ?_) (fun f z w b hM => ?_) (fun v2 s2 w2 t2 hA H2 => ?_)
  · unfold f168_79 f168_107 f168_108
    repeat' (first | (with_reducible exact b195 hy) | (with_reducible exact b164 hy) | (with_reducible exact b196 hy) | (with_reducible exact b182 hy) | (with_reducible exact b179 hy) | (with_reducible exact b172 hy) | (with_reducible exact b173 hy (by decide)) | (with_reducible exact b189 hn hy) | (with_reducible exact b190 hn hy _) | (with_reducible exact b178 hy) | (with_reducible exact bk_none) | (with_reducible exact bk_some LR_rf) | (with_reducible refine bk_ite (fun _ => ?_) (fun _ => ?_)) | (with_reducible refine bk_rdL ?_) | (with_reducible refine bk_zS LR_tr (LR_I ?_ ?_ ?_ ?_) ?_) | (with_reducible refine bk_zS LR_tr (LR_J ?_ ?_) ?_) | (with_reducible refine bk_zV ?_) | (with_reducible refine bk_y0 LR_tr ?_ (fun _ => ?_)) | (with_reducible refine bk_y1 LR_tr ?_ (fun _ _ => ?_)) | (with_reducible exact bk_pu pu_167 _) | (with_reducible exact bk_pu pu_177 _) | (with_reducible refine bk_pu (pu_170 hn ?_) _) | (with_reducible exact bk_pu (pu_175 hn) _) | (omega) | (decide))
  · obtain ⟨e, hF⟩ := hF
    have e : v = -1 := e
    subst e
    exact fc_68r hS (by omega) hF
  · have hM2 : FM len y t0 f z b := hM
    exact fms_167 hM2 (fw_i1 rfl (fw_some hM2))
  obtain ⟨⟨ev, ew⟩, hql1, hlim, hE2, hD2, hf2⟩ := hA
  have ev : v2 = nI (cnt c) := ev
  have ew : w2 = nI (cnt c) := ew
  subst ev
  subst ew
  have hE2 : ER U len x y s0 t0 K np tz G nb (4 * na) (tkNx U len (tkNx U len q)) 0 nd cd us s2 t2 := hE2
  have hD2 : DT x y K (uN cnt c (cnt c + 1)) (N + 1) s2 t2 := hD2
  have hf2 : tF x y s1 t1 s2 t2 := hf2
  have hgt1 := tkNx_gt (U := U) hql1
  have ha2 := aF_tr (aF_v hy hv1) (aF_t hx hf2)
  rw [m_goes hE2.2.1.2.2, yb1_s, if_neg n10] at H2 ⊢
  have hc8 : cnt c ≤ 8 := (hD.1 c (by omega)).2.2
  have hcm2 : ¬ nI (cnt c) = -1 := fun e => (neqM (by omega)).mp e
  have hu : ∀ k, uN cnt c (cnt c + 1) k = if k = c then cnt c + 1 else cnt k := fun k => rfl
  have s12 : s2.1 (x + 12) = s.1 (x + 12) ∧ s2.1 (x + 13) = s.1 (x + 13) ∨ True := Or.inr trivial
  have t56 : t2.1 (y + 5) = t1.1 (y + 5) ∧ t2.1 (y + 6) = t1.1 (y + 6) := ⟨hf2.2.1 _ (by omega) (by omega) (by omega) (by omega) (by omega), hf2.2.1 _ (by omega) (by omega) (by omega) (by omega) (by omega)⟩
  sorry
end ZRF
