/-! statements, both readers: all -/
section ZQJ
variable {U : Nat → Nat} {len x y n K np bl ub q dp nd cd us es na nb q2 dp2 nd2 cd2 us2 r nb0 cd0 mE na2 nb2 : Nat} {s0 t0 tz s t s2 t2 s3 t3 sS tS : zσ} {G G2 G3 : Nat → Nat → Nat} {c m L E : Nat → Int32} {cs : Nat → Nat} {gc : Int32 → Int32 → zσ → Option (Int32 × zσ)} {gm : zσ → Option (Int32 × zσ)}
theorem L146 (hr : r < 200) (u : zσ) : f46_146 n gc (nI r) u = yb0 (clF n r u) (f46_166 n gc (nI r)) := by
  obtain ⟨hz, hnx, -⟩ := r4 (r := r) (i := 0) hr (by omega)
  unfold f46_146 clF
  rw [as_0r]
  simp only [if_pos hz, hnx, as_0i, as_0s]
theorem fc166 {f z : Nat} (hn : 5000 ≤ n) (hS : S0 U len x y s0 t0) (hz : zin? (nI r) 200 = true) (h : FC len x s0 f z s) : fw (fun p => FC len x s0 f z p.2) (f46_166 n gc (nI r) s) := by
  have hx := hS.1
  unfold f46_166
  refine fcs_r5 hS h (fcs_r5 hS h (fw_i1 hz (fcs_I h hx (by omega) (by omega) (by omega) (fun h2 => fcs_37 h2 (by decide) ⟨_, rfl, h2⟩))))
/-- what the reference does with a new statement -/
def dsp (n : Nat) (gm : zσ → Option (Int32 × zσ)) (na : Nat) (how act : Int32) (u : zσ) : Option (Int32 × zσ) := if how = (0 : Int32) then (if act = (0 : Int32) then yb0 (f198 n (nI na) u) (f184_215 n gm act (nI na)) else yb0 (f164 n u) fun u11 => yb0 (f201 n gm (nI na) act u11) (f184_215 n gm act (nI na))) else yb0 (f188 n (nI na) how u) (f184_215 n gm act (nI na))
theorem lb_dsp (hn : 5000 ≤ n) (hy : y = 1134 ∨ y = 1170) (hg : ∀ t, bk (fun u => u.2) (LR np y tz) (gm t) t) {how act : Int32} (t : zσ) : bk (fun u => u.2) (LR np y tz) (dsp n gm na how act t) t := by
  unfold dsp
  repeat' (first | (with_reducible exact b198 hn hy _) | (with_reducible exact lb215 hy _) | (with_reducible exact b201 hn hy hg _) | (with_reducible exact b188 hn hy _) | (with_reducible exact b195 hy) | (with_reducible exact b164 hy) | (with_reducible exact b196 hy) | (with_reducible exact b182 hy) | (with_reducible exact b179 hy) | (with_reducible exact b172 hy) | (with_reducible exact b173 hy (by decide)) | (with_reducible exact b189 hn hy) | (with_reducible exact b190 hn hy _) | (with_reducible exact b178 hy) | (with_reducible exact bk_none) | (with_reducible exact bk_some LR_rf) | (with_reducible refine bk_ite (fun _ => ?_) (fun _ => ?_)) | (with_reducible refine bk_rdL ?_) | (with_reducible refine bk_zS LR_tr (LR_I ?_ ?_ ?_ ?_) ?_) | (with_reducible refine bk_zS LR_tr (LR_J ?_ ?_) ?_) | (with_reducible refine bk_zV ?_) | (with_reducible refine bk_y0 LR_tr ?_ (fun _ => ?_)) | (with_reducible refine bk_y1 LR_tr ?_ (fun _ _ => ?_)) | (with_reducible exact bk_pu pu_167 _) | (with_reducible exact bk_pu pu_177 _) | (with_reducible refine bk_pu (pu_170 hn ?_) _) | (with_reducible exact bk_pu (pu_175 hn) _) | (omega) | (decide))
theorem al_m {how act : Int32} (hS : S0 U len x y s0 t0) (h : SR U len x y s0 t0 K np tz G bl ub q dp nd cd us es na nb s t) (hlt : na < 200) : f184_63 n gm y how act 1 t = dsp n gm na how act (nsM y na act t) := by
  have hz : zin? (nI na) 200 = true := zin_nI hlt (by decide)
  have e16 : t.1 y 16 = nI na := h.2.1.2.1
  unfold f184_63
  rw [if_neg n10, e16, if_neg (fun e => by have := (nI_eq (a := na) (b := 200) (by omega) (by decide)).mp e; omega)]
  simp only [zlet, if_pos hz, nx_nI (show na < 2 ^ 31 by omega), nI_1]
  rfl
theorem al_f {how act : Int32} (hS : S0 U len x y s0 t0) (h : SR U len x y s0 t0 K np tz G bl ub q dp nd cd us es na nb s t) (he : na = 200) : ∃ t2, f184_63 n gm y how act 1 t = some (0, t2) ∧ FM len y t0 3 q t2 := by
  obtain ⟨t2, e2, g2⟩ := er_wrong (n := n) (f := 3) hS (by decide) h.1
  refine ⟨t2, ?_, g2⟩
  have e16 : t.1 y 16 = nI na := h.2.1.2.1
  unfold f184_63
  rw [if_neg n10, e16, he, if_pos (show nI 200 = 200 from rfl), show f173 n 3 (t.1 1132 4) t = _ from e2]
  rfl
theorem m_k1p (h : ER U len x y s0 t0 K np tz G bl ub q dp nd cd us s t) (hk : tkKind U len q = 1 ∨ ∃ w, w < 47 ∧ tkKind U len q = nI (128 + w)) : t.1 1132 3 = 1 ∧ t.2.1 1132 6 = tkNm U len q ∧ (tkKind U len q = 1 → ¬ zres (tkNm U len q)) ∧ (∀ w, w < 47 → tkKind U len q = nI (128 + w) → tkNm U len q = zWd w) := by
  obtain ⟨hq, hU, -⟩ := ER_q h
  have hM := h.2.1.2.1
  have hlf := k_lf hU hq (by
    rcases hk with e | e
    · exact Or.inl e
    · exact Or.inr (Or.inr e))
  rcases tk_cases hU hq with ⟨e, -, -⟩ | ⟨-, e, -⟩ | ⟨hlt, hl, ⟨v, hv, ev, e⟩, r⟩ | ⟨hlt, hl, hz, e, r⟩ | ⟨-, -, -, e, -⟩ | ⟨hlt, hl, hf, hs, e, -⟩
  · exfalso; omega
  · exfalso
    rcases hk with h | ⟨w, hw, h⟩
    · rw [h] at e; exact absurd e (by decide)
    · have := (nIe (u := 128 + w) (k := 0) (by omega) (by decide)).mp (h.symm.trans e); omega
  · refine ⟨hM.2.2.2.1.trans r, hM.2.2.2.2.2.1 hlt hl, fun h => ?_, fun w hw h => ?_⟩
    · exfalso; have := (nIe (u := 1) (k := 128 + v) (by decide) (by omega)).mp (h.symm.trans e); omega
    · have := (nIe (u := 128 + w) (k := 128 + v) (by omega) (by omega)).mp (h.symm.trans e)
      rw [show w = v by omega]; exact ev.symm
  · refine ⟨hM.2.2.2.1.trans r, hM.2.2.2.2.2.1 hlt hl, fun _ => hz, fun w hw h => ?_⟩
    exfalso; have := (nIe (u := 1) (k := 128 + w) (by decide) (by omega)).mp (e.symm.trans h); omega
  · exfalso
    rcases hk with h | ⟨w, hw, h⟩
    · rw [h] at e; exact absurd e (by decide)
    · have := (nIe (u := 128 + w) (k := 2) (by omega) (by decide)).mp (h.symm.trans e); omega
  · exfalso
    rcases hlf.2 with h | h
    · exact hl h
    · exact hf h
theorem m_184 (hn : 5000 ≤ n) (hS : S0 U len x y s0 t0) (h : ER U len x y s0 t0 K np tz G bl ub q dp nd cd us s t) : (tkKind U len q = 1 → f184 n gm t = f184_63 n gm y 0 0 1 t) ∧ (∀ hw, 1 ≤ hw → hw ≤ 4 → tkKind U len q = nI (144 + hw) → f184 n gm t = f184_63 n gm y (nI hw) 0 1 t) ∧ (∀ w, 21 ≤ w → w < 47 → tkKind U len q = nI (128 + w) → f184 n gm t = if zac w = 4 ∧ t.1 1132 15 = -1 then f184_63 n gm y 0 (nI (zac w)) 0 t else f184_63 n gm y 0 (nI (zac w)) 1 t) := by
  have hy := hS.2.1
  have nm := tm_name hn h.2.1.2.1
  refine ⟨fun hk => ?_, fun hw h1 h2 hk => ?_, fun w h1 h2 hk => ?_⟩
  · obtain ⟨k3, kn, kz, -⟩ := m_k1p h (Or.inl hk)
    unfold f184
    rw [ER_y hS h, grd (gck12 hy), (m_185 hn h).2 (fun hw a b e => by rw [hk] at e; have := (nIe (u := 1) (k := 144 + hw) (by decide) (by omega)).mp e; omega), yb1_s, if_pos k3, m_186 hn, yb1_s, kn, actF_n (kz hk)]
    unfold f184_29 f184_58
    rw [if_pos rfl, nm, yb1_s, zone_1 hk, if_neg n10]
  · obtain ⟨k3, kn, -, kw⟩ := m_k1p h (Or.inr ⟨16 + hw, by omega, by rw [show 128 + (16 + hw) = 144 + hw by omega]; exact hk⟩)
    have e := kw (16 + hw) (by omega) (by rw [show 128 + (16 + hw) = 144 + hw by omega]; exact hk)
    have e2 : actF (tkNm U len q) = 0 := by
      rw [e, actF_w ⟨16 + hw, by omega⟩]
      show nI (zac (16 + hw)) = 0
      rw [zac_0 ⟨16 + hw, by omega⟩ (by show 16 + hw < 21; omega)]; rfl
    unfold f184
    rw [ER_y hS h, grd (gck12 hy), (m_185 hn h).1 hw h1 h2 hk, yb1_s, if_pos k3, m_186 hn, yb1_s, kn, e2]
    unfold f184_29 f184_58
    rw [if_neg (fun e => by have := (nIe (u := hw) (k := 0) (by omega) (by decide)).mp e; omega)]
  · obtain ⟨k3, kn, -, kw⟩ := m_k1p h (Or.inr ⟨w, h2, hk⟩)
    have e := kw w h2 hk
    have e2 : actF (tkNm U len q) = nI (zac w) := by rw [e, actF_w ⟨w, h2⟩]
    obtain ⟨z1, z2, z3, z4⟩ := zac_k ⟨w, h2⟩ h1
    simp only at z1 z2 z3 z4
    have hk1 : ¬ tkKind U len q = 1 := fun e => by have := (nIe (u := 1) (k := 128 + w) (by decide) (by omega)).mp (e.symm.trans hk); omega
    unfold f184
    rw [ER_y hS h, grd (gck12 hy), (m_185 hn h).2 (fun hw a b e => by have := (nIe (u := 128 + w) (k := 144 + hw) (by omega) (by omega)).mp (hk.symm.trans e); omega), yb1_s, if_pos k3, m_186 hn, yb1_s, kn, e2]
    unfold f184_29 f184_58 f184_62
    rw [if_pos rfl, nm, yb1_s, zone_0 hk1, if_pos rfl, if_neg (fun e => by have := (nIe (u := zac w) (k := 0) (by omega) (by decide)).mp e; omega)]
    by_cases h4 : zac w = 4
    · rw [h4, if_pos (show nI 4 = 4 from rfl)]
      by_cases h15 : t.1 1132 15 = -1
      · rw [if_pos h15, if_pos ⟨rfl, h15⟩]
      · rw [if_neg h15, if_neg (fun e => h15 e.2)]
    · rw [if_neg (fun e => by have := (nIe (u := zac w) (k := 4) (by omega) (by decide)).mp e; exact h4 this), if_neg (fun e => h4 e.1)]
/-- a body, then the end of the statement -/
theorem stat_f {cb : Option zσ} {mb : Option zσ} {v : zσ} {x3 : Int32} (hQ : HQ n U len x y s0 t0 K tz G ub) (hG : HG K y tz G) (hlt : na < 200) (hbl : bl < nb) (h3 : ¬ x3 = 5 ∧ ¬ x3 = 6) (hv : v.2.2 1132 12 = some y) (H : Hb (fun u => u.2) K np y tz (yb0 mb (f184_215 n gm x3 (nI na)))) (hm : bk (fun u => u) (LR np y tz) mb v) (hb : Hb (fun u => u) K np y tz mb → Rs (FC len x s0) (FM len y t0) (ZB K y tz) (BO U len x y s0 t0 K np tz G bl na nb cd s t q dp nb) cb mb) : Rs (fun f z p => FC len x s0 f z p.2) (fun f z p => FM len y t0 f z p.2) (ZB K y tz) (SA U len x y s0 t0 K np tz G bl q dp na nb cd s t) (yb0 cb (f46_166 n gc (nI na))) (yb0 mb (f184_215 n gm x3 (nI na))) := by
  obtain ⟨hn, hS, -⟩ := id hQ
  have hz : zin? (nI na) 200 = true := zin_nI hlt (by decide)
  exact st00 H hv hm (fun u => lb215 hS.2.1 u) hb (fun f z a hF => fc166 hn hS hz hF) (fun f z b hM => fm_215 h3 hM) (fun a b hab H2 => fin_ok hQ hG hlt h3 hbl hab H2)
end ZQJ
