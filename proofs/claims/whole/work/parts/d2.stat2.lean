/-! statements, both readers: the whole -/
section ZQK
variable {U : Nat → Nat} {len x y n K np bl ub q dp nd cd us es na nb q2 dp2 nd2 cd2 us2 r nb0 cd0 mE na2 nb2 : Nat} {s0 t0 tz s t s2 t2 s3 t3 sS tS : zσ} {G G2 G3 : Nat → Nat → Nat} {c m L E : Nat → Int32} {cs : Nat → Nat} {gc : Int32 → Int32 → zσ → Option (Int32 × zσ)} {gm : zσ → Option (Int32 × zσ)}
def bdC (n r kk : Nat) (s : zσ) : Option zσ := if kk = 10 ∨ kk = 11 then yb0 (f61 n (nI r) s) (clF n r) else if kk = 3 then clF n r s else yb0 (f62 n (nI r) s) (clF n r)
theorem oper_all {kk : Nat} (hQ : HQ n U len x y s0 t0 K tz G ub) (hG : HG K y tz G) (hr : r < 200) (hc0 : cd0 = cd) (hkk : 3 ≤ kk ∧ kk < 29 ∧ kk ≠ 5 ∧ kk ≠ 6) (hpr : kk = 4 → K = 1 → 8 ≤ G 5 bl) (h18 : kk = 18 → tkKind U len q = 1 ∨ tkKind U len q = 59) (h : ST U len x y s0 t0 K np tz G bl r nb0 cd0 sS tS (4 * r) q dp nd cd us es nb (c0F (nI (zkd kk)) cd bl) (m0F (nI kk)) L E 0 cs s t) (H : Hb (fun u => u) K np y tz (f201 n gm (nI r) (nI kk) t)) : Rs (FC len x s0) (FM len y t0) (ZB K y tz) (BO U len x y s0 t0 K np tz G bl r nb0 cd0 sS tS q dp nb) (bdC n r kk s) (f201 n gm (nI r) (nI kk) t) := by
  obtain ⟨hn, hS, -⟩ := id hQ
  have hy := hS.2.1
  have hcs : kk = 3 ∨ kk = 4 ∨ kk = 7 ∨ kk = 8 ∨ kk = 9 ∨ kk = 10 ∨ kk = 11 ∨ kk = 12 ∨ kk = 13 ∨ kk = 14 ∨ kk = 15 ∨ kk = 16 ∨ kk = 17 ∨ kk = 18 ∨ kk = 19 ∨ kk = 20 ∨ kk = 21 ∨ kk = 22 ∨ kk = 23 ∨ kk = 24 ∨ kk = 25 ∨ kk = 26 ∨ kk = 27 ∨ kk = 28 := by omega
  unfold bdC
  rcases hcs with rfl | rfl | rfl | rfl | rfl | rfl | rfl | rfl | rfl | rfl | rfl | rfl | rfl | rfl | rfl | rfl | rfl | rfl | rfl | rfl | rfl | rfl | rfl | rfl
  · rw [if_neg (by omega), if_pos rfl, cl_y hS h rfl]
    have em : f201 n gm (nI r) (nI 3) t = f199 n (nI r) t := by
      unfold f201
      rw [ER_y hS h.1.1, grd (gck12 hy)]
      show yb0 (f199 n (nI r) t) _ = _
      rw [y0s]
    rw [em] at H ⊢
    refine Rs_w (pcall_ok (HQ_ub (ub2 := 4 * r) hQ (by omega)) hr (by omega) h H) (fun a b _ _ hab => ?_)
    obtain ⟨v3, ⟨q9, nd9, cd9, us9, es9, i9, E9, cs9, b1, b2, b3, b4⟩, b5⟩ := hab
    refine BO_c (kk := 3) hc0 b3 ⟨by omega, by omega, by omega, by omega, by omega, by omega⟩ ⟨rfl, rfl, rfl, rfl, rfl, rfl⟩ (fun hK hm => Or.inr (Or.inr (Or.inl ⟨rfl, Or.inl ⟨rfl, rfl⟩, b5 hK, ?_⟩)))
    obtain ⟨p, p1, p2, p3⟩ := b4 hK
    have hg := (hG hK).2.2.2.2 p p1
    have e := hg.1.symm.trans (p3 hm)
    have : G 12 p = i9 := (nI_eq (by omega) (by omega)).mp e
    exact ⟨p, p1, p2, by rw [this]; rfl, this.symm⟩
  · rw [if_neg (by omega), if_neg (by omega)]
    exact op_4 hQ hr hc0 (hpr rfl) h H
  · rw [if_neg (by omega), if_neg (by omega)]
    exact op_7 hQ hr hc0 h H
  · rw [if_neg (by omega), if_neg (by omega)]
    exact op_8 hQ hr hc0 h H
  · rw [if_neg (by omega), if_neg (by omega)]
    exact op_9 hQ hr hc0 h H
  · rw [if_pos (by omega)]
    have em : f201 n gm (nI r) (nI 10) t = f202 n (nI r) t := by
      unfold f201 f201_273
      rw [ER_y hS h.1.1, grd (gck12 hy)]
      show yb0 (f202 n (nI r) t) _ = _
      rw [y0s]
    rw [em] at H ⊢
    exact list_ok hQ hr hc0 (by omega) h H
  · rw [if_pos (by omega)]
    have em : f201 n gm (nI r) (nI 11) t = f202 n (nI r) t := by
      unfold f201 f201_273
      rw [ER_y hS h.1.1, grd (gck12 hy)]
      show yb0 (f202 n (nI r) t) _ = _
      rw [y0s]
    rw [em] at H ⊢
    exact list_ok hQ hr hc0 (by omega) h H
  · rw [if_neg (by omega), if_neg (by omega)]
    exact op_12 hQ hr hc0 h H
  · rw [if_neg (by omega), if_neg (by omega)]
    exact op_13 hQ hr hc0 h H
  · rw [if_neg (by omega), if_neg (by omega)]
    exact op_14 hQ hr hc0 h H
  · rw [if_neg (by omega), if_neg (by omega)]
    exact op_15 hQ hr hc0 h H
  · rw [if_neg (by omega), if_neg (by omega)]
    exact op_16 hQ hr hc0 h H
  · rw [if_neg (by omega), if_neg (by omega)]
    exact op_17 hQ hr hc0 h H
  · rw [if_neg (by omega), if_neg (by omega)]
    exact op_18 hQ hr hc0 (h18 rfl) h H
  · rw [if_neg (by omega), if_neg (by omega)]
    exact op_19 hQ hr hc0 h H
  · rw [if_neg (by omega), if_neg (by omega)]
    exact op_20 hQ hr hc0 h H
  · rw [if_neg (by omega), if_neg (by omega)]
    exact op_21 hQ hr hc0 h H
  · rw [if_neg (by omega), if_neg (by omega)]
    exact op_22 hQ hr hc0 h H
  · rw [if_neg (by omega), if_neg (by omega)]
    exact op_23 hQ hr hc0 h H
  · rw [if_neg (by omega), if_neg (by omega)]
    exact op_24 hQ hr hc0 h H
  · rw [if_neg (by omega), if_neg (by omega)]
    exact op_25 hQ hr hc0 h H
  · rw [if_neg (by omega), if_neg (by omega)]
    exact op_26 hQ hr hc0 h H
  · rw [if_neg (by omega), if_neg (by omega)]
    exact op_27 hQ hr hc0 h H
  · rw [if_neg (by omega), if_neg (by omega)]
    exact op_28 hQ hr hc0 h H
theorem BO_q {q0 : Nat} (hq : q0 ≤ q) {a b : zσ} (h : BO U len x y s0 t0 K np tz G bl r nb0 cd0 sS tS q dp nb a b) : BO U len x y s0 t0 K np tz G bl r nb0 cd0 sS tS q0 dp nb a b := by
  obtain ⟨kk, ub2, q2, nd2, cd2, us2, es2, c, m, L, E, mE, cs, h1, ⟨h2, h3⟩, h4⟩ := h
  exact ⟨kk, ub2, q2, nd2, cd2, us2, es2, c, m, L, E, mE, cs, h1, ⟨by omega, h3⟩, h4⟩
theorem c_28 {k : Int32} (hS : S0 U len x y s0 t0) (h : SR U len x y s0 t0 K np tz G bl ub q dp nd cd us es na nb s t) : (na < 200 → f46_28 n gc (nI bl) k s = if k = (151 : Int32) then f46_63 n gc (nI na) (nsC x na k (nI bl) (nI cd) s) else if k = (152 : Int32) then f46_63 n gc (nI na) (nsC x na k (nI bl) (nI cd) s) else if k = (1 : Int32) then yb0 (f59 n (nI na) (nsC x na k (nI bl) (nI cd) s)) (f46_146 n gc (nI na)) else if k < (145 : Int32) then f46_105 n gc k (nI na) (nsC x na k (nI bl) (nI cd) s) else if (148 : Int32) < k then f46_105 n gc k (nI na) (nsC x na k (nI bl) (nI cd) s) else yb0 (f60 n (nI na) (nsC x na k (nI bl) (nI cd) s)) (f46_146 n gc (nI na))) ∧ (na = 200 → f46_28 n gc (nI bl) k s = yb1 (f32 n (3 : Int32) s) fun v7 u6 => some (v7, u6)) := by
  constructor
  · intro hlt
    unfold f46_28
    rw [ER_5 hS h.1, grd (gck9 hS.1).2.1, (f47_v h).1 hlt, yb1_s, if_neg (fun e => (neqM (by omega)).mp e)]
  · intro he
    unfold f46_28
    rw [ER_5 hS h.1, grd (gck9 hS.1).2.1, (f47_v h).2 he, yb1_s, if_pos rfl]
theorem c_105 {kk : Nat} (hr : r < 200) (hkk : 3 ≤ kk ∧ kk < 29 ∧ kk ≠ 5 ∧ kk ≠ 6) (s : zσ) : f46_105 n gc (nI (zkd kk)) (nI r) s = yb0 (f26 n s) fun u1 => yb0 (bdC n r kk u1) (f46_166 n gc (nI r)) := by
  unfold f46_105 f46_126 bdC
  have h46 : ∀ u, f46_146 n gc (nI r) u = yb0 (clF n r u) (f46_166 n gc (nI r)) := fun u => L146 hr u
  simp only [h46]
  congr 1
  funext u1
  have hcs : kk = 3 ∨ kk = 4 ∨ kk = 7 ∨ kk = 8 ∨ kk = 9 ∨ kk = 10 ∨ kk = 11 ∨ kk = 12 ∨ kk = 13 ∨ kk = 14 ∨ kk = 15 ∨ kk = 16 ∨ kk = 17 ∨ kk = 18 ∨ kk = 19 ∨ kk = 20 ∨ kk = 21 ∨ kk = 22 ∨ kk = 23 ∨ kk = 24 ∨ kk = 25 ∨ kk = 26 ∨ kk = 27 ∨ kk = 28 := by omega
  rcases hcs with rfl | rfl | rfl | rfl | rfl | rfl | rfl | rfl | rfl | rfl | rfl | rfl | rfl | rfl | rfl | rfl | rfl | rfl | rfl | rfl | rfl | rfl | rfl | rfl
  · rw [if_neg (by decide), if_neg (by decide), if_pos (show nI (zkd 3) = 149 from rfl), if_neg (by omega), if_pos rfl]
  · rw [if_neg (by decide), if_neg (by decide), if_neg (by decide), if_neg (by omega), if_neg (by omega), y00]
  · rw [if_neg (by decide), if_neg (by decide), if_neg (by decide), if_neg (by omega), if_neg (by omega), y00]
  · rw [if_neg (by decide), if_neg (by decide), if_neg (by decide), if_neg (by omega), if_neg (by omega), y00]
  · rw [if_neg (by decide), if_neg (by decide), if_neg (by decide), if_neg (by omega), if_neg (by omega), y00]
  · rw [if_pos (show nI (zkd 10) = 159 from rfl), if_pos (by omega), y00]
  · rw [if_neg (by decide), if_pos (show nI (zkd 11) = 160 from rfl), if_pos (by omega), y00]
  · rw [if_neg (by decide), if_neg (by decide), if_neg (by decide), if_neg (by omega), if_neg (by omega), y00]
  · rw [if_neg (by decide), if_neg (by decide), if_neg (by decide), if_neg (by omega), if_neg (by omega), y00]
  · rw [if_neg (by decide), if_neg (by decide), if_neg (by decide), if_neg (by omega), if_neg (by omega), y00]
  · rw [if_neg (by decide), if_neg (by decide), if_neg (by decide), if_neg (by omega), if_neg (by omega), y00]
  · rw [if_neg (by decide), if_neg (by decide), if_neg (by decide), if_neg (by omega), if_neg (by omega), y00]
  · rw [if_neg (by decide), if_neg (by decide), if_neg (by decide), if_neg (by omega), if_neg (by omega), y00]
  · rw [if_neg (by decide), if_neg (by decide), if_neg (by decide), if_neg (by omega), if_neg (by omega), y00]
  · rw [if_neg (by decide), if_neg (by decide), if_neg (by decide), if_neg (by omega), if_neg (by omega), y00]
  · rw [if_neg (by decide), if_neg (by decide), if_neg (by decide), if_neg (by omega), if_neg (by omega), y00]
  · rw [if_neg (by decide), if_neg (by decide), if_neg (by decide), if_neg (by omega), if_neg (by omega), y00]
  · rw [if_neg (by decide), if_neg (by decide), if_neg (by decide), if_neg (by omega), if_neg (by omega), y00]
  · rw [if_neg (by decide), if_neg (by decide), if_neg (by decide), if_neg (by omega), if_neg (by omega), y00]
  · rw [if_neg (by decide), if_neg (by decide), if_neg (by decide), if_neg (by omega), if_neg (by omega), y00]
  · rw [if_neg (by decide), if_neg (by decide), if_neg (by decide), if_neg (by omega), if_neg (by omega), y00]
  · rw [if_neg (by decide), if_neg (by decide), if_neg (by decide), if_neg (by omega), if_neg (by omega), y00]
  · rw [if_neg (by decide), if_neg (by decide), if_neg (by decide), if_neg (by omega), if_neg (by omega), y00]
  · rw [if_neg (by decide), if_neg (by decide), if_neg (by decide), if_neg (by omega), if_neg (by omega), y00]
theorem Rs_pair {v w : Int32} {C M : Option zσ} {A : Int32 × zσ → Int32 × zσ → Prop} (H : Hb (fun u => u.2) K np y tz (yb0 M fun u => some (w, u))) (h : Hb (fun u => u) K np y tz M → Rs (FC len x s0) (FM len y t0) (ZB K y tz) (fun a b => A (v, a) (w, b)) C M) : Rs (fun f z p => FC len x s0 f z p.2) (fun f z p => FM len y t0 f z p.2) (ZB K y tz) A (yb0 C fun u => some (v, u)) (yb0 M fun u => some (w, u)) := by
  have H0 : Hb (fun u => u) K np y tz M := fun hK => by
    obtain ⟨b, e, hb⟩ := H hK
    cases M with
    | none => cases e
    | some u => cases e; exact ⟨u, rfl, hb⟩
  rcases h H0 with ⟨a, b, e1, e2, h⟩ | ⟨a, b, f, z, e1, e2, h1, h2⟩ | ⟨a, z, e1, h1, h2⟩
  · rw [e1, e2]; exact Rs_A rfl rfl h
  · rw [e1, e2]; exact Rs_B ⟨_, rfl, h1⟩ ⟨_, rfl, h2⟩
  · rw [e1]; exact Rs_C h1 ⟨_, rfl, h2⟩
theorem stat_ok (hQ : HQ n U len x y s0 t0 K tz G ub) (hG : HG K y tz G) (hB : BPP n U len x y s0 t0 K np tz dp gc gm) (hbl : bl < nb) (h4 : K = 1 → G 4 bl = dp) (h : SR U len x y s0 t0 K np tz G bl (4 * na) q dp nd cd us es na nb s t) (hk : tkKind U len q = 1 ∨ ∃ w, 17 ≤ w ∧ w < 47 ∧ tkKind U len q = nI (128 + w)) (H : Hb (fun u => u.2) K np y tz (f184 n gm t)) : Rs (fun f z p => FC len x s0 f z p.2) (fun f z p => FM len y t0 f z p.2) (ZB K y tz) (SA U len x y s0 t0 K np tz G bl q dp na nb cd s t) (f46 n gc (nI bl) s) (f184 n gm t) := by
  obtain ⟨hn, hS, -⟩ := id hQ
  obtain ⟨hB1, hB2, hB3, hB4⟩ := id hB
  have hx := hS.1
  have hy := hS.2.1
  have hE := h.1
  obtain ⟨hq, hU, hlen⟩ := ER_q hE
  have hna := h.2.1.2.2
  have hk0 : ¬ tkKind U len q = 0 ∧ ¬ tkKind U len q = 3 := by
    rcases hk with e | ⟨w, h1, h2, e⟩
    · rw [e]; decide
    · rw [e]
      exact ⟨fun e => by have := (nIe (u := 128 + w) (k := 0) (by omega) (by decide)).mp e; omega, fun e => by have := (nIe (u := 128 + w) (k := 3) (by omega) (by decide)).mp e; omega⟩
  have hql := tk_lt hE hk0.2
  have hgt := tkNx_gt (U := U) hql
  have hyt := ER_y hS hE
  -- no room
  have hfull : na = 200 → ∀ {how act : Int32}, Rs (fun f z p => FC len x s0 f z p.2) (fun f z p => FM len y t0 f z p.2) (ZB K y tz) (SA U len x y s0 t0 K np tz G bl q dp na nb cd s t) (f46_28 n gc (nI bl) (tkKind U len q) s) (f184_63 n gm y how act 1 t) := fun he how act => by
    obtain ⟨t2, e2, g2⟩ := al_f (n := n) (gm := gm) (how := how) (act := act) hS h he
    obtain ⟨s2, e1, g1⟩ := er_ref (n := n) (f := 3) hS hE
    rw [zft_3 hk0.1] at g1
    rw [(c_28 hS h).2 he, show f32 n 3 s = _ from e1, e2]
    exact Rs_B ⟨_, rfl, g1⟩ ⟨_, rfl, g2⟩
  have hst : ∀ {how act : Int32}, na < 200 → Hb (fun u => u.2) K np y tz (f184_63 n gm y how act 1 t) → ST U len x y s0 t0 K np tz G bl na nb cd s t (4 * na) q dp nd cd us es nb (c0F (tkKind U len q) cd bl) (m0F act) (fun j => t.1 (y + 21) (4 * na + j)) (fun j => t.1 (y + 22) (4 * na + j)) 0 (fun _ => cd) (nsC x na (tkKind U len q) (nI bl) (nI cd) s) (nsM y na act t) ∧ (nsM y na act t).2.2 1132 12 = some y := fun {how act} hlt H => by
    have hyt2 : (nsM y na act t).2.2 1132 12 = some y := hyt
    refine ⟨alloc_ok hS h hlt ?_, hyt2⟩
    rw [al_m hS h hlt] at H
    exact Hb_bk H (lb_dsp hn hy hB4 _) hyt2
  have hwc : ∀ k : Int32, tkKind U len q = k → ¬ k = 150 → f46 n gc (nI bl) s = f46_28 n gc (nI bl) k s := fun k e hne => by
    unfold f46
    show (if s.1 1001 4 = (150 : Int32) then _ else f46_28 n gc (nI bl) (s.1 1001 4) s) = _
    rw [ER_k hE, e, if_neg hne]
  rcases hk with hk | ⟨w, w1, w2, hk⟩
  · -- a name
    rw [(m_184 hn hS hE).1 hk] at H ⊢
    rw [hwc 1 hk (by decide)]
    rcases Nat.lt_or_ge na 200 with hlt | hge
    · obtain ⟨h1, hyt2⟩ := hst hlt H
      rw [al_m hS h hlt] at H ⊢
      rw [(c_28 hS h).1 hlt, if_neg (by decide), if_neg (by decide), if_pos rfl]
      unfold dsp at H ⊢
      rw [if_pos rfl, if_pos rfl] at H ⊢
      rw [show f46_146 n gc (nI na) = fun u => yb0 (clF n na u) (f46_166 n gc (nI na)) from funext (fun u => L146 hlt u), y00]
      rw [hk] at h1
      exact stat_f hQ hG hlt hbl (by decide) hyt2 H (b198 hn hy _) (fun H2 => asg_ok hQ hlt rfl h1 hk (fun hK p hp => (hG hK).2.2.2.2 p hp) H2)
    · have := hfull (by omega) (how := 0) (act := 0)
      rw [hk] at this
      exact this
  · rcases Nat.lt_or_ge w 21 with hw | hw
    · -- a schedule
      have hk' : tkKind U len q = nI (144 + (w - 16)) := by rw [hk]; congr 1; omega
      rw [(m_184 hn hS hE).2.1 (w - 16) (by omega) (by omega) hk'] at H ⊢
      rw [hwc _ hk (fun e => by have := (nIe (u := 128 + w) (k := 150) (by omega) (by decide)).mp e; omega)]
      rcases Nat.lt_or_ge na 200 with hlt | hge
      · obtain ⟨h1, hyt2⟩ := hst hlt H
        rw [al_m hS h hlt] at H ⊢
        rw [(c_28 hS h).1 hlt, if_neg (fun e => by have := (nIe (u := 128 + w) (k := 151) (by omega) (by decide)).mp e; omega), if_neg (fun e => by have := (nIe (u := 128 + w) (k := 152) (by omega) (by decide)).mp e; omega), if_neg (fun e => by have := (nIe (u := 128 + w) (k := 1) (by omega) (by decide)).mp e; omega), if_neg (show ¬ nI (128 + w) < 145 from nI_nlt (b := 145) (by omega) (by omega)), if_neg (show ¬ (148 : Int32) < nI (128 + w) from nI_nlt (a := 148) (by omega) (by omega))]
        unfold dsp at H ⊢
        rw [if_neg (show ¬ nI (w - 16) = 0 from fun e => by have := (nIe (u := w - 16) (k := 0) (by omega) (by decide)).mp e; omega)] at H ⊢
        rw [show f46_146 n gc (nI na) = fun u => yb0 (clF n na u) (f46_166 n gc (nI na)) from funext (fun u => L146 hlt u), y00]
        rw [hk'] at h1
        rw [show nI (128 + w) = nI (144 + (w - 16)) by congr 1; omega]
        exact stat_f hQ hG hlt hbl (by decide) hyt2 H (b188 hn hy _) (fun H2 => timed_ok hQ hlt rfl (by omega) h1 hk' H2)
      · have := hfull (by omega) (how := nI (w - 16)) (act := 0)
        rw [hk] at this
        exact this
    · obtain ⟨z1, z2, z3, z4⟩ := zac_k ⟨w, w2⟩ hw
      simp only at z1 z2 z3 z4
      have hkz : tkKind U len q = nI (zkd (zac w)) := by rw [hk, z1]
      rw [(m_184 hn hS hE).2.2 w hw w2 hk] at H ⊢
      by_cases hret : zac w = 4 ∧ t.1 1132 15 = -1
      · -- a return outside
        rw [if_pos hret]
        obtain ⟨s2, x1, g1⟩ := er_ref (n := n) (f := 2) hS hE
        obtain ⟨t2, x2, g2⟩ := er_cant (n := n) hS hE
        have h8 : s.1 1004 8 = 0 := by
          rcases h.2.2.2.2.1 with ⟨a, -⟩ | ⟨-, p, p1, p2⟩
          · exact a
          · exfalso; rw [p2] at hret; exact (neqM (by omega)).mp hret.2
        have hk150 : tkKind U len q = 150 := by rw [hkz, hret.1]; rfl
        refine Rs_B (f := zft U len q 2) (z := q) ⟨(-1, s2), ?_, g1⟩ ⟨(0, t2), ?_, g2⟩
        · unfold f46
          show (if s.1 1001 4 = (150 : Int32) then _ else f46_28 n gc (nI bl) (s.1 1001 4) s) = _
          rw [ER_k hE, hk150, if_pos rfl, if_pos h8, show f32 n 2 s = _ from x1]; rfl
        · unfold f184_63
          rw [if_pos rfl, x2]; rfl
      rw [if_neg hret] at H ⊢
      have hcl : f46 n gc (nI bl) s = f46_28 n gc (nI bl) (nI (zkd (zac w))) s := by
        unfold f46
        show (if s.1 1001 4 = (150 : Int32) then if s.1 1004 8 = 0 then _ else f46_28 n gc (nI bl) (s.1 1001 4) s else f46_28 n gc (nI bl) (s.1 1001 4) s) = _
        rw [ER_k hE, hkz]
        by_cases e : nI (zkd (zac w)) = 150
        · rw [if_pos e]
          have e4 : zac w = 4 := by
            have : zkd (zac w) = 150 := by
              rw [z1] at e ⊢
              exact (nIe (u := 128 + w) (k := 150) (by omega) (by decide)).mp e
            have hw22 : w = 22 := by omega
            subst hw22; rfl
          rw [if_neg]
          intro e8
          rcases h.2.2.2.2.1 with ⟨-, a⟩ | ⟨a, -⟩
          · exact hret ⟨e4, a⟩
          · rw [a] at e8; exact absurd e8 (by decide)
        · rw [if_neg e]
      rw [hcl]
      rcases Nat.lt_or_ge na 200 with hlt | hge
      · obtain ⟨h1, hyt2⟩ := hst hlt H
        rw [al_m hS h hlt] at H ⊢
        rw [(c_28 hS h).1 hlt]
        unfold dsp at H ⊢
        rw [if_pos rfl, if_neg (show ¬ nI (zac w) = 0 from fun e => by have := (nIe (u := zac w) (k := 0) (by omega) (by decide)).mp e; omega)] at H ⊢
        rw [hkz] at h1
        by_cases h56 : zac w = 5 ∨ zac w = 6
        · -- if, while
          obtain ⟨kd, hkk⟩ : ∃ kd, zac w = 5 ∧ kd = 2 ∨ zac w = 6 ∧ kd = 3 := by
            rcases h56 with e | e
            · exact ⟨2, Or.inl ⟨e, rfl⟩⟩
            · exact ⟨3, Or.inr ⟨e, rfl⟩⟩
          obtain ⟨hz, hnx, -⟩ := r4 (r := na) (i := 0) hlt (by omega)
          have e215 : f184_215 n gm (nI (zac w)) (nI na) = fun u => some (nI na, u) := by
            funext u
            unfold f184_215
            rcases h56 with e | e
            · rw [e, if_pos (show nI 5 = 5 from rfl)]
            · rw [e, if_neg (show ¬ nI 6 = 5 by decide), if_pos (show nI 6 = 6 from rfl)]
          rw [e215] at H ⊢
          have hkf : (nsC x na (nI (zkd (zac w))) (nI bl) (nI cd) s).1 (x + 20) na = nI (zkd (zac w)) := h1.2.1.1 0 (by omega)
          have e48 : f48 n gc (nI na) (nsC x na (nI (zkd (zac w))) (nI bl) (nI cd) s) = yb0 (f26 n (nsC x na (nI (zkd (zac w))) (nI bl) (nI cd) s)) fun u1 => yb0 (f49 n (f52 n 20) u1) fun u2 => zrd 6 (u2.2.2 1004 5) fun a3 => zrd 6 (u2.2.2 1004 5) fun a4 => zlet (sI u2 (a3 + 5) na (u2.1 a4 11)) fun u5 => zrd 6 (u5.2.2 1004 5) fun a6 => f48_66 n gc (nI na) (if zac w = 5 then 0 else 1) (nI kd) (nI na) (a6 + 2) u5 := by
            unfold f48
            rw [ER_5 hS h1.1.1, grd (gck9 hx).2.1, if_pos hz, hnx, show x + 19 + 1 = x + 20 by omega, hkf]
            rcases hkk with ⟨e, rfl⟩ | ⟨e, rfl⟩
            · rw [e, if_neg (show ¬ nI (zkd 5) = 152 by decide)]
              unfold f48_20
              simp only [if_pos hz, hnx, if_true]
              rfl
            · rw [e, if_pos (show nI (zkd 6) = 152 from rfl)]
              unfold f48_20
              simp only [if_pos hz, hnx]
              rfl
          have ec : ∀ p q' : Option (Int32 × zσ), (if nI (zkd (zac w)) = (151 : Int32) then p else if nI (zkd (zac w)) = (152 : Int32) then p else q') = p := fun p q' => by
            rcases hkk with ⟨e, -⟩ | ⟨e, -⟩
            · rw [e, if_pos (show nI (zkd 5) = 151 from rfl)]
            · rw [e, if_neg (show ¬ nI (zkd 6) = 151 by decide), if_pos (show nI (zkd 6) = 152 from rfl)]
          rw [ec]
          unfold f46_63
          rw [e48]
          have em : (yb0 (f164 n (nsM y na (nI (zac w)) t)) fun u11 => yb0 (f201 n gm (nI na) (nI (zac w)) u11) fun u => some (nI na, u)) = yb0 (yb0 (f164 n (nsM y na (nI (zac w)) t)) (f201 n gm (nI na) (nI (zac w)))) fun u => some (nI na, u) := y00
          rw [em] at H ⊢
          refine Rs_pair (H := H) (fun H2 => ?_)
          have hb201 : ∀ u, bk (fun u => u) (LR np y tz) (f201 n gm (nI na) (nI (zac w)) u) u := fun u => b201 hn hy hB4 u
          refine st_n hn hS h1 H2 hb201 (fun s2 t2 h2 hSC hq2 H3 => ?_)
          have e147 : f201 n gm (nI na) (nI (zac w)) t2 = f201_147 n gm (nI na) (nI (zac w)) y t2 := by
            unfold f201
            rw [ER_y hS h2.1.1, grd (gck12 hy)]
            rcases h56 with e | e
            · rw [e]; rfl
            · rw [e]; rfl
          rw [e147] at H3 ⊢
          refine br_ok hQ hG hB hlt hbl h4 hkk hgt (fun q2 hq3 hkin => ?_) h2 H3
          have h6 := h.2.2.1.2.2
          rcases hkk with ⟨e, -⟩ | ⟨e, -⟩
          · have hk23 : tkKind U len q = nI (128 + 23) := by rw [hkz, e]; rfl
            have := if_len hU hq (by omega) hk23 zWd_4.2.1 (by decide) (by decide) hq3 hkin
            omega
          · have hk24 : tkKind U len q = nI (128 + 24) := by rw [hkz, e]; rfl
            have := if_len hU hq (by omega) hk24 zWd_4.2.2.2.1 (by decide) (by decide) hq3 hkin
            omega
        · have hkk : 3 ≤ zac w ∧ zac w < 29 ∧ zac w ≠ 5 ∧ zac w ≠ 6 := by omega
          have hne : ∀ k, k < 256 → k ≠ zkd (zac w) → ¬ nI (zkd (zac w)) = nI k := fun k hk2 hne e => hne ((nIe (u := zkd (zac w)) (k := k) (by omega) hk2).mp e).symm
          have hw23 : w ≠ 23 ∧ w ≠ 24 := by
            constructor
            · rintro rfl; exact h56 (Or.inl rfl)
            · rintro rfl; exact h56 (Or.inr rfl)
          rw [if_neg (show ¬ nI (zkd (zac w)) = (151 : Int32) from hne 151 (by omega) (by omega)), if_neg (show ¬ nI (zkd (zac w)) = (152 : Int32) from hne 152 (by omega) (by omega)), if_neg (show ¬ nI (zkd (zac w)) = (1 : Int32) from hne 1 (by omega) (by omega)), if_neg (show ¬ nI (zkd (zac w)) < 145 from nI_nlt (b := 145) (by omega) (by omega)), if_pos (show (148 : Int32) < nI (zkd (zac w)) from nI_lt (a := 148) (by omega) (by omega)), c_105 hlt hkk]
          refine st_n hn hS h1 H (fun u => ?_) (fun s2 t2 h2 hSC hq2 H2 => ?_)
          · repeat' (first | (with_reducible exact lb215 hy _) | (with_reducible exact b201 hn hy hB4 _) | (with_reducible exact b195 hy) | (with_reducible exact b164 hy) | (with_reducible exact b196 hy) | (with_reducible exact b182 hy) | (with_reducible exact b179 hy) | (with_reducible exact b172 hy) | (with_reducible exact b173 hy (by decide)) | (with_reducible exact b189 hn hy) | (with_reducible exact b190 hn hy _) | (with_reducible exact b178 hy) | (with_reducible exact bk_none) | (with_reducible exact bk_some LR_rf) | (with_reducible refine bk_ite (fun _ => ?_) (fun _ => ?_)) | (with_reducible refine bk_rdL ?_) | (with_reducible refine bk_zS LR_tr (LR_I ?_ ?_ ?_ ?_) ?_) | (with_reducible refine bk_zS LR_tr (LR_J ?_ ?_) ?_) | (with_reducible refine bk_zV ?_) | (with_reducible refine bk_y0 LR_tr ?_ (fun _ => ?_)) | (with_reducible refine bk_y1 LR_tr ?_ (fun _ _ => ?_)) | (with_reducible exact bk_pu pu_167 _) | (with_reducible exact bk_pu pu_177 _) | (with_reducible refine bk_pu (pu_170 hn ?_) _) | (with_reducible exact bk_pu (pu_175 hn) _) | (omega) | (decide))
          have h3 : ¬ nI (zac w) = 5 ∧ ¬ nI (zac w) = 6 := ⟨fun e => by have := (nIe (u := zac w) (k := 5) (by omega) (by decide)).mp e; omega, fun e => by have := (nIe (u := zac w) (k := 6) (by omega) (by decide)).mp e; omega⟩
          by_cases h18 : zac w = 18 → tkKind U len (tkNx U len q) = 1 ∨ tkKind U len (tkNx U len q) = 59
          · refine stat_f hQ hG hlt hbl h3 (ER_y hS h2.1.1) H2 (b201 hn hy hB4 _) (fun H3 => Rs_w (oper_all hQ hG hlt rfl hkk (fun e hK => ?_) h18 h2 H3) (fun a b _ _ hab => BO_q hq2 hab))
            have hp15 : ¬ t.1 1132 15 = -1 := fun e15 => hret ⟨e, e15⟩
            rcases (hE.2.2.2.2.2.2.2 hK).2.2.2.2 with ⟨-, a⟩ | ⟨p, m, p1, p2, p3, p4, p5, p6, p7, -⟩
            · exact absurd a hp15
            · omega
          · -- end, and neither a name nor ;
            have e18 : zac w = 18 := by
              by_cases e : zac w = 18
              · exact e
              · exact absurd (fun e2 => absurd e2 e) h18
            have hno : ¬ tkKind U len (tkNx U len q) = 1 ∧ ¬ tkKind U len (tkNx U len q) = 59 := ⟨fun e => h18 (fun _ => Or.inl e), fun e => h18 (fun _ => Or.inr e)⟩
            obtain ⟨hz, hnx, -⟩ := r4 (r := na) (i := 0) hlt (by omega)
            rw [e18] at h2 H2 ⊢
            obtain ⟨s3, t3', x1, -, g1, -⟩ := no_name (a := nI 8) (w := 8) hn hS h2.1.1 hno.1
            have h5 := ST_wM (j := 2) (v := -1) hS (by omega) (by omega) (by omega) h2
            obtain ⟨t3, x2, g2⟩ := er_cant (n := n) hS h5.1.1
            refine Rs_B (f := zft U len (tkNx U len q) 2) (z := tkNx U len q) ?_ ⟨(nI na, t3), ?_, g2⟩
            · refine fw_y0 (Q := FC len x s0 (zft U len (tkNx U len q) 2) (tkNx U len q)) ?_ (fun u hu => fc166 hn hS hz hu)
              unfold bdC
              rw [if_neg (by omega), if_neg (by omega), c18 hS hlt h2 rfl, if_neg hno.2, x1, yb1_s]
              exact fcs_I g1 hx (by omega) (by omega) (by omega) (fun g3 => fc_cl hn hS hz g3)
            · rw [m18 hn hS hlt h2, if_neg hno.1, yb0_s]
              unfold f184_215
              rw [if_neg (by decide), if_neg (by decide)]
              have : f179 n 59 (sI t2 (y + 17) na (-1)) = some t3 := by
                unfold f179
                have hM := h5.1.1.2.1.2
                rw [m_goes (show (sI t2 (y + 17) na (-1)).1 1132 9 = 0 from hM.2), yb1_s, if_neg n10, show f177 n 59 (sI t2 (y + 17) na (-1)) = _ from tm_sign (c := 59) hM.1 (by decide) (by decide), yb1_s, zone_0 (show ¬ tkKind U len (tkNx U len q) = nI 59 from hno.2), if_pos rfl, show f172 n (sI t2 (y + 17) na (-1)) = _ from x2]
                rfl
              rw [this]; rfl
      · have := hfull (by omega) (how := 0) (act := nI (zac w))
        rw [hkz] at this
        exact this
end ZQK
