/-! declarations, both readers: a proc, its parts -/
section ZRJ
variable {U : Nat → Nat} {len x y n K np bl ub q dp nd cd us es na nb q2 p m N c : Nat} {s0 t0 tz s t s2 t2 s3 t3 sB tB : zσ} {G G2 : Nat → Nat → Nat} {cnt cnt2 : Nat → Nat}
def prO (n y : Nat) (v : Int32) (u20 : zσ) : Option zσ := yb1 (f181 n 20 u20) fun v22 u21 => if zin? v 6 = true then zlet (sI u21 (y + 10) (nx v) v22) fun u23 => zlet (sI u23 1132 15 (-1 : Int32)) fun u24 => some u24 else none
def prN (n y : Nat) (v : Int32) (u18 : zσ) : Option zσ := yb0 (f179 n (41 : Int32) u18) fun u19 => zlet (sI u19 1132 15 v) fun u20 => prO n y v u20
def prM (n y : Nat) (v : Int32) (u17 : zσ) : Option zσ := yb0 (f180 n v u17) fun u18 => prN n y v u18
theorem bO {v : Int32} (hn : 5000 ≤ n) (hy : y = 1134 ∨ y = 1170) (u : zσ) : bk (fun u => u) (LR np y tz) (prO n y v u) u := by
  unfold prO
  repeat' (first | (with_reducible exact b181 hn hy _ _) | (with_reducible exact b195 hy) | (with_reducible exact b164 hy) | (with_reducible exact b196 hy) | (with_reducible exact b182 hy) | (with_reducible exact b179 hy) | (with_reducible exact b172 hy) | (with_reducible exact b173 hy (by decide)) | (with_reducible exact b189 hn hy) | (with_reducible exact b190 hn hy _) | (with_reducible exact b178 hy) | (with_reducible exact bk_none) | (with_reducible exact bk_some LR_rf) | (with_reducible refine bk_ite (fun _ => ?_) (fun _ => ?_)) | (with_reducible refine bk_rdL ?_) | (with_reducible refine bk_zS LR_tr (LR_I ?_ ?_ ?_ ?_) ?_) | (with_reducible refine bk_zS LR_tr (LR_J ?_ ?_) ?_) | (with_reducible refine bk_zV ?_) | (with_reducible refine bk_y0 LR_tr ?_ (fun _ => ?_)) | (with_reducible refine bk_y1 LR_tr ?_ (fun _ _ => ?_)) | (with_reducible exact bk_pu pu_167 _) | (with_reducible exact bk_pu pu_177 _) | (with_reducible refine bk_pu (pu_170 hn ?_) _) | (with_reducible exact bk_pu (pu_175 hn) _) | (omega) | (decide))
theorem bN {v : Int32} (hn : 5000 ≤ n) (hy : y = 1134 ∨ y = 1170) (u : zσ) : bk (fun u => u) (LR np y tz) (prN n y v u) u := by
  unfold prN
  repeat' (first | (with_reducible exact bO hn hy _) | (with_reducible exact b195 hy) | (with_reducible exact b164 hy) | (with_reducible exact b196 hy) | (with_reducible exact b182 hy) | (with_reducible exact b179 hy) | (with_reducible exact b172 hy) | (with_reducible exact b173 hy (by decide)) | (with_reducible exact b189 hn hy) | (with_reducible exact b190 hn hy _) | (with_reducible exact b178 hy) | (with_reducible exact bk_none) | (with_reducible exact bk_some LR_rf) | (with_reducible refine bk_ite (fun _ => ?_) (fun _ => ?_)) | (with_reducible refine bk_rdL ?_) | (with_reducible refine bk_zS LR_tr (LR_I ?_ ?_ ?_ ?_) ?_) | (with_reducible refine bk_zS LR_tr (LR_J ?_ ?_) ?_) | (with_reducible refine bk_zV ?_) | (with_reducible refine bk_y0 LR_tr ?_ (fun _ => ?_)) | (with_reducible refine bk_y1 LR_tr ?_ (fun _ _ => ?_)) | (with_reducible exact bk_pu pu_167 _) | (with_reducible exact bk_pu pu_177 _) | (with_reducible refine bk_pu (pu_170 hn ?_) _) | (with_reducible exact bk_pu (pu_175 hn) _) | (omega) | (decide))
theorem bM (hn : 5000 ≤ n) (hy : y = 1134 ∨ y = 1170) (hp : np ≤ p) (hp6 : p < 6) (u : zσ) : bk (fun u => u) (LR np y tz) (prM n y (nI p) u) u := by
  unfold prM
  exact bk_y0 LR_tr (b180 hn hy hp hp6 _) (fun _ => bN hn hy _)
theorem Lt_le {np2 : Nat} (h : Lt np2 y t tz) (hl : np ≤ np2) : Lt np y t tz := by
  obtain ⟨a1, a2, a3, a4, a5, a6, a7⟩ := h
  exact ⟨a1, a2, a3, a4, a5, a6, fun p hp => a7 p (by omega)⟩
/-- what is written of a proc -/
def prC (n : Nat) (v3 v4 : Int32) (u3 : zσ) : Option zσ := if v3 = (-1 : Int32) then f33_112 n u3 else zrd 9 (u3.2.2 1004 4) fun a5 => if zin? v3 6 = true then zlet (sI u3 (a5 + 18) (nx v3) (u3.1 1004 3)) fun u6 => zrd 9 (u6.2.2 1004 4) fun a7 => if zin? v3 6 = true then zlet (sI u6 (a7 + 17) (nx v3) v4) fun u8 => f33_112 n u8 else none else none
theorem pr_end {i : Nat} (hS : S0 U len x y s0 t0) (h : BC len x s0 s) (hi : i < 6) {v4 : Int32} : prC n (nI i) v4 s = some (sI (sI (sI (sI s (x + 18) i (s.1 1004 3)) (x + 17) i v4) 1004 8 0) 1004 3 0) := by
  have hr := (BC_rf hS h).1
  have hz : zin? (nI i) 6 = true := zin_nI hi (by decide)
  have hne : ¬ nI i = (-1 : Int32) := fun e => (neqM (by omega)).mp e
  have hg := (gck9 hS.1).1
  unfold prC
  rw [if_neg hne, hr, grd hg, if_pos hz, nx_nI (show i < 2 ^ 31 by omega)]
  show (zrd 9 (s.2.2 1004 4) fun a7 => if zin? (nI i) 6 = true then zlet (sI (sI s (x + 18) i (s.1 1004 3)) (a7 + 17) i v4) fun u8 => f33_112 n u8 else none) = _
  rw [hr, grd hg, if_pos hz]
  rfl
theorem fc_112 {f z : Nat} (hS : S0 U len x y s0 t0) (h : FC len x s0 f z s) : fw (FC len x s0 f z) (f33_112 n s) := by
  have hx := hS.1
  unfold f33_112
  exact fcs_I h hx (by omega) (by omega) (by omega) (fun h2 => fcs_I h2 hx (by omega) (by omega) (by omega) (fun h3 => fw_some h3))
theorem fc_pr {f z : Nat} {v3 v4 : Int32} (hS : S0 U len x y s0 t0) (hv : v3 = -1 ∨ zin? v3 6 = true) (h : FC len x s0 f z s) : fw (FC len x s0 f z) (prC n v3 v4 s) := by
  have hx := hS.1
  unfold prC
  refine fw_i (fun _ => fc_112 hS h) (fun hne => ?_)
  have hz : zin? v3 6 = true := by
    rcases hv with e | e
    · exact absurd e hne
    · exact e
  exact fcs_r4 hS h (fw_i1 hz (fcs_I h hx (by omega) (by omega) (by omega) (fun h2 => fcs_r4 hS h2 (fw_i1 hz (fcs_I h2 hx (by omega) (by omega) (by omega) (fun h3 => fc_112 hS h3))))))
theorem e_66 {v3 : Int32} : f33_66 n v3 s = yb0 (f37 n (41 : Int32) s) fun u1 => zlet (sI u1 1004 8 (1 : Int32)) fun u2 => yb1 (f40 n 20 (1 : Int32) v3 u2) fun v4 u3 => prC n v3 v4 u3 := rfl
theorem fc_66p {f z : Nat} {v3 : Int32} (hS : S0 U len x y s0 t0) (hB : BPP n U len x y s0 t0 K np tz 0 (f40 n 20) (f181 n 20)) (hv : v3 = -1 ∨ zin? v3 6 = true) (h : FC len x s0 f z s) : fw (FC len x s0 f z) (f33_66 n v3 s) := by
  have hx := hS.1
  rw [e_66]
  refine fcs_37 h (by decide) (fcs_I h hx (by omega) (by omega) (by omega) (fun h2 => ?_))
  rw [hB.2.1 f z _ _ _ h2, yb1_s]
  exact fc_pr hS hv h2
theorem fc_40p {f z : Nat} {v3 : Int32} (hn : 5000 ≤ n) (hS : S0 U len x y s0 t0) (hB : BPP n U len x y s0 t0 K np tz 0 (f40 n 20) (f181 n 20)) (hv : v3 = -1 ∨ zin? v3 6 = true) (h : FC len x s0 f z s) : fw (FC len x s0 f z) (if s.1 1001 4 = (41 : Int32) then f33_37 n v3 (0 : Int32) s else f33_37 n v3 (1 : Int32) s) := by
  refine fw_i0 (fc_k h (by decide)) ?_
  unfold f33_37
  obtain ⟨j, rfl⟩ : ∃ j, n = j + 2 := ⟨n - 2, by omega⟩
  have e38 : f38 (j + 2) s = some s := by
    unfold f38
    rw [if_neg (fc_k h (by decide)), c_refuse0 (fc_4 h)]; rfl
  have e39 : f39 (j + 2) 44 s = some (0, s) := by unfold f39; rw [if_neg (fc_k h (by decide))]
  rw [f33_40, if_neg n10, if_neg (show ¬ (3 : Int32) < 0 by decide), e38, yb0_s, e39, yb1_s, f33_40, if_pos rfl]
  exact fc_66p hS hB hv h
theorem fm_O {f z : Nat} {v : Int32} (hS : S0 U len x y s0 t0) (hB : BPP n U len x y s0 t0 K np tz 0 (f40 n 20) (f181 n 20)) (hv : zin? v 6 = true) (h : FM len y t0 f z t) : fw (FM len y t0 f z) (prO n y v t) := by
  have hy := hS.2.1
  unfold prO
  rw [hB.2.2.1 f z t h, yb1_s]
  exact fw_i1 hv (fms_I h hy (by omega) (fun h2 => fms_I h2 hy (by omega) (fun h3 => fw_some h3)))
theorem fm_N {f z : Nat} {v : Int32} (hS : S0 U len x y s0 t0) (hB : BPP n U len x y s0 t0 K np tz 0 (f40 n 20) (f181 n 20)) (hv : zin? v 6 = true) (h : FM len y t0 f z t) : fw (FM len y t0 f z) (prN n y v t) := by
  have hy := hS.2.1
  unfold prN
  exact fms_179 h (fms_I h hy (by omega) (fun h2 => fm_O hS hB hv h2))
theorem fm_M {f z : Nat} (hn : 5000 ≤ n) (hS : S0 U len x y s0 t0) (hB : BPP n U len x y s0 t0 K np tz 0 (f40 n 20) (f181 n 20)) (hp : p < 6) (h : FM len y t0 f z t) : fw (FM len y t0 f z) (prM n y (nI p) t) := by
  have hy := hS.2.1
  have hv : zin? (nI p) 6 = true := zin_nI hp (by decide)
  unfold prM f180 f180_27 f180_28
  obtain ⟨j, rfl⟩ : ∃ j, n = j + 1 := ⟨n - 1, by omega⟩
  have h0 : ¬ t.1 1132 9 = 0 := by
    obtain ⟨a, -, b, c⟩ := h.2
    rw [a]; exact fun e => by have := (nIe (u := f) (k := 0) (by omega) (by decide)).mp e; omega
  rw [BM_rf hS h.1, grd (gck12 hy), m_goes0 h0, yb1_s, if_pos rfl, f180_30, if_pos rfl, if_pos hv]
  exact fms_I (b := fun u1 => yb0 (some u1) fun u18 => prN (j + 1) y (nI p) u18) h hy (by omega) (fun h2 => fm_N hS hB hv h2)
/-- a wanted sign, for both -/
theorem want_eq {c : Nat} (hn : 5000 ≤ n) (hS : S0 U len x y s0 t0) (hc : zsg c = true) (hc2 : c < 126) (h : ER U len x y s0 t0 K np tz G bl ub q dp nd cd us s t) : (tkKind U len q = nI c → q < len ∧ ∃ s2 t2, f37 n (nI c) s = some s2 ∧ f179 n (nI c) t = some t2 ∧ CG U len (tkNx U len q) s2 ∧ zof s s2 1001 ∧ MG U len (tkNx U len q) t2 ∧ frN t t2) ∧ (¬ tkKind U len q = nI c → ∃ f z s2 t2, f37 n (nI c) s = some s2 ∧ FC len x s0 f z s2 ∧ f179 n (nI c) t = some t2 ∧ FM len y t0 f z t2) := by
  obtain ⟨hq, hU, -⟩ := ER_q h
  constructor
  · intro e
    obtain ⟨s2, e1, c1, o1⟩ := c_adv hn h.1.2
    obtain ⟨t2, e2, c2, o2⟩ := m_next hn h.2.1.2
    have e1' : f37 n (nI c) s = some s2 := by unfold f37; rw [ER_k h, if_pos e, e1]; rfl
    have e2' : f179 n (nI c) t = some t2 := by
      unfold f179
      rw [m_goes h.2.1.2.2, yb1_s, if_neg n10, tm_sign h.2.1.2.1 hc hc2, yb1_s, zone_1 e, if_neg n10, e2]; rfl
    exact ⟨((tk_byte hU hq hc hc2).mp e).1, s2, t2, e1', e2', c1, o1, c2, o2⟩
  · intro e
    obtain ⟨s2, e1, g1⟩ := er_ref (n := n) (f := 2) hS h
    obtain ⟨t2, e2, g2⟩ := er_cant (n := n) hS h
    refine ⟨_, q, s2, t2, ?_, g1, ?_, g2⟩
    · unfold f37
      rw [ER_k h, if_neg e, show f32 n 2 s = _ from e1]; rfl
    · unfold f179
      rw [m_goes h.2.1.2.2, yb1_s, if_neg n10, tm_sign h.2.1.2.1 hc hc2, yb1_s, zone_0 e, if_pos rfl, e2]; rfl
/-- telling: the reference alone -/
theorem m_tell_c (hn : 5000 ≤ n) (hS : S0 U len x y s0 t0) (h : ER U len x y s0 t0 K np tz G bl ub q dp nd cd us s t) (hD : DT x y K cnt N s t) (hc : c < 9) : (∃ f z u, f174 n (nI c) t = some (0, u) ∧ FM len y t0 f z u) ∨ (∃ u, f174 n (nI c) t = some (nI (cnt c), u) ∧ dCn cnt c < zmnp c) := by
  have hy := hS.2.1
  obtain ⟨mt1, mt2⟩ := m_tell (n := n) hn hS h hD hc
  by_cases hk : tkKind U len q = 1
  · obtain ⟨mt3, mt4⟩ := mt2 hk
    by_cases hm : dCn cnt c = zmnp c
    · obtain ⟨t2, x2, g2⟩ := er_wrong (n := n) (f := 3) hS (by decide) h
      exact Or.inl ⟨3, q, t2, by rw [mt3 hm, show f173 n 3 (t.1 1132 4) t = _ from x2]; rfl, g2⟩
    · obtain ⟨mA, mB⟩ := mt4 hm
      by_cases hd : ∃ k, k < N ∧ t.2.1 (y + 1) k = t.2.1 1132 6
      · obtain ⟨t2, x2, g2⟩ := er_wrong (n := n) (f := 4) hS (by decide) h
        exact Or.inl ⟨4, q, t2, by rw [mA hd, show f173 n 4 (t.1 1132 4) t = _ from x2]; rfl, g2⟩
      · have eM := mB (fun k hk e => hd ⟨k, hk, e⟩)
        have hMG : MG U len q (tlM y c N (cnt c) t) := by
          unfold tlM
          exact MG_I (by omega) (by omega) (MG_I (by omega) (by omega) (MG_I (by omega) (by omega) (MG_I (by omega) (by omega) (MG_J (by omega) h.2.1.2))))
        obtain ⟨t2, e2, c2, o2⟩ := m_next hn hMG
        have e24 : t2.1 (y + 4) c = nI (cnt c + 1) := by rw [(o2.1 (y + 4) (by omega)).1]; exact hIe
        have hmm := (DT_m hD hc).1
        exact Or.inr ⟨t2, by rw [eM, e2, yb0_s, e24, nI_pred], by omega⟩
  · obtain ⟨t2, x2, g2⟩ := er_cant (n := n) hS h
    exact Or.inl ⟨_, q, t2, by rw [mt1 hk, x2]; rfl, g2⟩
theorem DT_W (h : DT x y K cnt N s t) : DT x y (K + 4294967296) cnt N s t := ⟨h.1, h.2.1, h.2.2.1, fun e => by omega⟩
end ZRJ
