/-! the use of a name -/
section ZPP
variable {U : Nat → Nat} {len x y n K np bl ub q dp nd cd us q2 dp2 nd2 cd2 us2 : Nat} {s0 t0 tz s t s2 t2 : zσ} {G : Nat → Nat → Nat}
/-- what the class has of a name, for what the reference has -/
def uRp (G : Nat → Nat → Nat) (y bl : Nat) (tz : zσ) (a v w : Int32) : Prop := (∀ c, c < 9 → a = nI c → uA G y c (tzMp tz y) v w) ∧ (a = 9 → uV G y bl (tzMp tz y) v w)
def uQ (G : Nat → Nat → Nat) (y bl : Nat) (tz : zσ) (a v : Int32) (us q : Nat) : Prop := uRp G y bl tz a v (nI us) ∧ tz.1 (y + 30) us = nI q ∧ us < nx (tz.1 y 34)
theorem tzM_33 {u : Nat} (h : u < nx (tz.1 y 34)) : (tzMp tz y).1 (y + 33) u = (zso tz y u).2 ∧ (tzMp tz y).1 (y + 34) u = (zso tz y u).1 := by
  constructor
  · show (if y + 33 = y + 33 ∧ u < nx (tz.1 y 34) then _ else _) = _
    rw [if_pos ⟨rfl, h⟩]
  · show (if y + 34 = y + 33 ∧ u < nx (tz.1 y 34) then _ else if y + 34 = y + 34 ∧ u < nx (tz.1 y 34) then _ else _) = _
    rw [if_neg (by omega), if_pos ⟨rfl, h⟩]
theorem tzM_o {a u : Nat} (h1 : a ≠ y + 33) (h2 : a ≠ y + 34) : (tzMp tz y).1 a u = tz.1 a u := by
  show (if a = y + 33 ∧ u < nx (tz.1 y 34) then _ else if a = y + 34 ∧ u < nx (tz.1 y 34) then _ else _) = _
  rw [if_neg (fun h => h1 h.1), if_neg (fun h => h2 h.1)]
/-- the class's step at a name; the reference has the use, with the sort w that is wanted in the end -/
theorem use_raw {a w : Int32} {c0 : Nat} (hQ : HQ n U len x y s0 t0 K tz G ub) (h : ER U len x y s0 t0 K np tz G bl ub q dp nd cd us s t) (hk : tkKind U len q = 1) (hc : c0 < 9) (ha : a = nI c0 ∧ w = nI c0 ∨ a = 9 ∧ c0 = 0 ∧ w = 10) (hlt : us < nd + ub) (g2 : MG U len (tkNx U len q) t2) (o2 : frM y t t2) (v14 : t2.1 1132 14 = t.1 1132 14) (v27 : t2.1 y 27 = t.1 y 27) (v31 : t2.1 y 31 = t.1 y 31) (v34 : t2.1 y 34 = nI (us + 1)) (v35 : ∀ u, u < us → t2.1 (y + 35) u = t.1 (y + 35) u) (v35' : t2.1 (y + 35) us = -1) (w29 : t2.2.1 (y + 29) us = t.2.1 1132 6) (w30 : t2.1 (y + 30) us = t.1 1132 4) (w31 : t2.1 (y + 31) us = w) (w32 : t2.1 (y + 32) us = t.1 1132 15) (hl : K = 1 → Lt np y t2 tz) : (∃ v s2, f57 n a s = some (v, s2) ∧ EN U len x y s0 t0 K np tz G bl ub cd us (tkNx U len q) dp nd cd (us + 1) s t s2 t2 ∧ (K = 0 → v = 0) ∧ (K = 1 → uQ G y bl tz a v us q)) ∨ (∃ s2 z, f57 n a s = some (-1, s2) ∧ (ZB K y tz) z ∧ FC len x s0 6 z s2) := by
  obtain ⟨hn, hS, hub, h13, hN, hK01, -⟩ := hQ
  have hx := hS.1
  have hy := hS.2.1
  obtain ⟨hq, hU, hlen⟩ := ER_q h
  obtain ⟨-, -, h7, ⟨d1, d2, d3⟩, ⟨n1, n2, n3⟩, ⟨k1, k2, k3⟩, ⟨u1, u2⟩, hK⟩ := id h
  have hql : q < len ∧ zltU (U q) = true := by
    rcases tk_cases hU hq with ⟨-, e, -⟩ | ⟨-, e, -⟩ | ⟨-, -, ⟨w, hw, -, e⟩, -⟩ | ⟨b1, b2, -⟩ | ⟨-, -, -, e, -⟩ | ⟨hlt, -, -, hs, e, -⟩
    · rw [hk] at e; exact absurd e (by decide)
    · rw [hk] at e; exact absurd e (by decide)
    · rw [hk] at e; exfalso; have := (nIe (u := 1) (k := 128 + w) (by decide) (by omega)).mp e; omega
    · exact ⟨b1, b2⟩
    · rw [hk] at e; exact absurd e (by decide)
    · rw [hk] at e; exfalso; have := (nIe (u := 1) (k := U q) (by decide) (hU q hlt)).mp e; have := zsg_b hs (hU q hlt); omega
  have hnm : t.2.1 1132 6 = s.2.1 1001 7 := (h.2.1.2.1.2.2.2.2.2.1 hql.1 hql.2).trans (h.1.2.1.2.2.2.2.2.2.1 hql.1 hql.2).symm
  obtain ⟨s2, e1, c1, o1⟩ := c_adv hn h.1.2
  have hadv : ∀ v, ¬ v = -1 → f57_100 n v s = some (v, s2) := fun v hv => by
    unfold f57_100
    rw [if_neg hv, e1]; rfl
  have hgo : (K = 1 → iO tz y us) → EN U len x y s0 t0 K np tz G bl ub cd us (tkNx U len q) dp nd cd (us + 1) s t s2 t2 := fun hi => by
    refine ⟨⟨frE_o hx o1, o2, fun _ p _ => by rw [(o1.1 _ (by omega)).1, (o1.1 _ (by omega)).1]; exact ⟨rfl, rfl⟩, v35, fun u a1 a2 => by rw [show u = us by omega]; exact v35'⟩, ER_of hS h (frE_o hx o1) o2 c1 g2 ?_ ?_ d3 ?_ ?_ n3 ?_ ?_ k3 v34 (by omega) (fun e => ⟨hl e, fun u hu => ?_⟩)⟩
    · rw [(o1.1 1004 (by decide)).1]; exact d1
    · rw [v14]; exact d2
    · rw [(o1.1 (x + 19) (by omega)).1]; exact n1
    · rw [v27]; exact n2
    · rw [(o1.1 (x + 19) (by omega)).1]; exact k1
    · rw [v31]; exact k2
    · by_cases e3 : u = us
      · subst e3; exact hi e
      · exact (hK e).2.1 u (by omega)
  by_cases hK1 : K = 1
  · have hL := hl hK1
    obtain ⟨us1, uz, b1, b2, b3, b4, b5⟩ := hL.2.1
    have hu1 : us1 = us + 1 := (nI_eq (by omega) (by omega)).mp (b1.symm.trans v34)
    subst hu1
    obtain ⟨z29, z30, z31, z32⟩ := b5 us (by omega)
    have ha' : a = nI c0 ∨ a = 9 ∧ c0 = 0 := by
      rcases ha with ⟨h1, -⟩ | ⟨h1, h2, -⟩
      · exact Or.inl h1
      · exact Or.inr ⟨h1, h2⟩
    obtain ⟨m, v, m3, mG, e2, hR⟩ := mean_ok (a := a) hn hS (hN hK1) h hK1 hk hc ha' (by rw [← z29, w29, hnm]) (by rw [← z32, w32])
    have hlz : us < nx (tz.1 y 34) := by rw [b2, nx_nI (show uz < 2 ^ 31 by omega)]; omega
    have hw : tz.1 (y + 31) us = w := z31.symm.trans w31
    have hG6 : ∀ c, c < 9 → G 6 c ≤ 8 := fun c hc => ((hN hK1).1 c hc).2
    have h32 : ok32 tz y us := by
      have e32 : tz.1 (y + 32) us = t.1 1132 15 := by rw [← z32, w32]
      unfold ok32
      rw [e32]
      rcases (hK hK1).2.2.2.2 with ⟨-, e⟩ | ⟨p, m', p1, -, p3, -, p5, p6, -⟩
      · exact Or.inl e
      · exact Or.inr ⟨p, m', p1, p3, p5, p6⟩
    by_cases hv : v = -1
    · right
      have hno : ¬ isO tz y us := by
        rintro ⟨i1, i2⟩
        rw [hw] at i1 i2
        rcases hR with ⟨c, i, a1, a2, a3, a4, a5⟩ | ⟨a1, i, a3, a4, a5⟩ | ⟨a1, k, a3, a4, a5⟩ | ⟨-, a1, a2⟩
        · exact (neqM (by have := hG6 c a1; omega)).mp (a5.symm.trans hv)
        · exact (neqM (by have := hG6 0 (by omega); omega)).mp (a5.symm.trans hv)
        · exact (neqM (by omega)).mp (a5.symm.trans hv)
        · rcases ha with ⟨p1, p2⟩ | ⟨p1, p2, p3⟩
          · refine a1 ((i2 ?_).trans (p2.trans p1.symm))
            rw [p2]
            exact fun e => by have := (nIe (u := c0) (k := 10) (by omega) (by decide)).mp e; omega
          · rcases i1 p3 with e | e
            · exact a2 p1 e
            · exact a1 (e.trans p1.symm)
      obtain ⟨s3, e3, g3⟩ := er_ref (n := n) (f := 6) hS h
      rw [zft_6 (by rw [hk]; decide)] at g3
      refine ⟨s3, q, ?_, ⟨hK1, us, hlz, (hK hK1).2.1, ⟨h32, hno⟩, ?_⟩, g3⟩
      · rw [e2]
        unfold f57_100
        rw [if_pos hv, show f32 n 6 s = _ from e3]; rfl
      · rw [← z30, w30]; exact MG_at h.2.1.2
    · left
      have hm33 := (tzM_33 (tz := tz) (y := y) hlz).1
      have hm34 := (tzM_33 (tz := tz) (y := y) hlz).2
      have hus : us < 1400 := by omega
      have h9 : ∀ c, c < 9 → ¬ nI c = 9 := fun c hc e => by
        have := (nIe (u := c) (k := 9) (by omega) (by decide)).mp e
        omega
      refine ⟨v, s2, by rw [e2]; exact hadv v hv, hgo (fun _ => ⟨?_, h32⟩), fun e => by omega, fun _ => ⟨?_, by rw [← z30, w30]; exact MG_at h.2.1.2, hlz⟩⟩
      · unfold isO
        rw [hw]
        rcases hR with ⟨c, i, a1, a2, a3, a4, a5⟩ | ⟨a1, i, a3, a4, a5⟩ | ⟨a1, k, a3, a4, a5⟩ | ⟨a1, -⟩
        · rcases ha with ⟨p1, p2⟩ | ⟨p1, p2, p3⟩
          · have : c0 = c := (nI_eq (by omega) (by omega)).mp (p1.symm.trans a2)
            subst this
            rw [a4, p2]
            exact ⟨fun e => by have := (nIe (u := c0) (k := 10) (by omega) (by decide)).mp e; omega, fun _ => rfl⟩
          · exact absurd (a2.symm.trans p1) (h9 c a1)
        · rcases ha with ⟨p1, p2⟩ | ⟨p1, p2, p3⟩
          · exact absurd (p1.symm.trans a1) (h9 c0 hc)
          · rw [a4, p3]
            exact ⟨fun _ => Or.inl rfl, fun e => absurd rfl e⟩
        · rcases ha with ⟨p1, p2⟩ | ⟨p1, p2, p3⟩
          · exact absurd (p1.symm.trans a1) (h9 c0 hc)
          · rw [a4, p3]
            exact ⟨fun _ => Or.inr rfl, fun e => absurd rfl e⟩
        · exact absurd a1 hv
      · rcases hR with ⟨c, i, a1, a2, a3, a4, a5⟩ | ⟨a1, i, a3, a4, a5⟩ | ⟨a1, k, a3, a4, a5⟩ | ⟨a1, -⟩
        · refine ⟨fun c2 hc2 e => ?_, fun e => absurd (a2.symm.trans e) (h9 c a1)⟩
          have : c = c2 := (nI_eq (by omega) (by omega)).mp (a2.symm.trans e)
          subst this
          exact ⟨us, i, hus, a3, rfl, by rw [hm33, a4], a5⟩
        · exact ⟨fun c2 hc2 e => absurd (e.symm.trans a1) (h9 c2 hc2), fun _ => ⟨us, i, hus, rfl, by rw [hm33, a4], Or.inl ⟨by rw [hm34, a4], a3, a5⟩⟩⟩
        · exact ⟨fun c2 hc2 e => absurd (e.symm.trans a1) (h9 c2 hc2), fun _ => ⟨us, k, hus, rfl, by rw [hm33, a4], Or.inr ⟨by rw [hm34, a4], by omega, a5, (mG (by omega)).1, by rw [← (mG (by omega)).2]; exact a3⟩⟩⟩
        · exact absurd a1 hv
  · left
    have hK0 : s.1 1004 7 = 0 ∨ ¬ K = 0 := by
      by_cases e : K = 0
      · left; rw [h7, e]; rfl
      · exact Or.inr e
    by_cases e0 : K = 0
    · refine ⟨0, s2, ?_, hgo (fun e => absurd e hK1), fun _ => rfl, fun e => absurd e hK1⟩
      unfold f57
      rw [ER_k h, hk, if_pos rfl, h7, e0, if_pos (show nI 0 = 0 from rfl)]
      exact hadv 0 (by decide)
    · omega
/-- the reference's step at a name -/
theorem use_189 {w : Int32} (hn : 5000 ≤ n) (hS : S0 U len x y s0 t0) (h : ER U len x y s0 t0 K np tz G bl ub q dp nd cd us s t) (hk : tkKind U len q = 1) (hlt : us < 1400) : ∃ t2, f189 n w t = some (nI us, t2) ∧ MG U len (tkNx U len q) t2 ∧ frM y t t2 ∧ t2.1 1132 14 = t.1 1132 14 ∧ t2.1 y 27 = t.1 y 27 ∧ t2.1 y 31 = t.1 y 31 ∧ t2.1 y 34 = nI (us + 1) ∧ (∀ u, u < us → t2.1 (y + 35) u = t.1 (y + 35) u) ∧ t2.1 (y + 35) us = -1 ∧ t2.2.1 (y + 29) us = t.2.1 1132 6 ∧ t2.1 (y + 30) us = t.1 1132 4 ∧ t2.1 (y + 31) us = w ∧ t2.1 (y + 32) us = t.1 1132 15 := by
  have hy := hS.2.1
  have u1 := h.2.2.2.2.2.2.1.1
  let t1 := sI (sI (sI (sI (sI (sJ t (y + 29) us (t.2.1 1132 6)) (y + 30) us (t.1 1132 4)) (y + 31) us w) (y + 32) us (t.1 1132 15)) (y + 35) us (-1)) y 34 (nI (us + 1))
  have hM1 : MG U len q t1 := MG_I (by omega) (by omega) (MG_I (by omega) (by omega) (MG_I (by omega) (by omega) (MG_I (by omega) (by omega) (MG_I (by omega) (by omega) (MG_J (by omega) h.2.1.2)))))
  obtain ⟨t2, e2, c2, o2⟩ := m_next hn hM1
  have g34 : t2.1 y 34 = nI (us + 1) := by
    rw [(o2.1 y (by omega)).1]
    exact hIe
  refine ⟨t2, ?_, c2, ?_, ?_, ?_, ?_, g34, fun u hu => ?_, ?_, ?_, ?_, ?_, ?_⟩
  · unfold f189
    have hin : zin? (nI us) 1400 = true := zin_nI hlt (by decide)
    have r0 := ER_y hS h
    rw [m_goes h.2.1.2.2, yb1_s, if_neg (by decide), tm_name hn h.2.1.2.1, yb1_s, zone_1 hk, if_neg (by decide), r0, grd (gck12 hy)]
    simp (disch := omega) only [gJ1, u1, hin, if_true, zlet, nx_nI (show us < 2 ^ 31 by omega), hIo, nI_1]
    show yb0 (f164 n t1) _ = _
    rw [e2, yb0_s, g34, nI_pred]
  · refine frM_tr ?_ (frM_T hy (frT_N o2))
    refine ⟨fun a a1 a2 a3 => ?_, fun a a1 a2 => ?_, rfl, fun k _ _ _ _ _ _ _ _ => ?_, fun k k1 k2 k3 => ?_⟩
    · show (sI (sI (sI (sI (sI (sJ t (y + 29) us (t.2.1 1132 6)) (y + 30) us (t.1 1132 4)) (y + 31) us w) (y + 32) us (t.1 1132 15)) (y + 35) us (-1)) y 34 (nI (us + 1))).1 a = _
      rw [hIo a2, hIo (by omega), hIo (by omega), hIo (by omega), hIo (by omega)]; rfl
    · show (sJ t (y + 29) us (t.2.1 1132 6)).2.1 a = _
      funext j
      rw [gJ, if_neg (by omega)]
    · show (sI (sI (sI (sI (sI (sJ t (y + 29) us (t.2.1 1132 6)) (y + 30) us (t.1 1132 4)) (y + 31) us w) (y + 32) us (t.1 1132 15)) (y + 35) us (-1)) y 34 (nI (us + 1))).1 1132 k = _
      rw [hIo (by omega), hIo (by omega), hIo (by omega), hIo (by omega), hIo (by omega)]; rfl
    · show (sI (sI (sI (sI (sI (sJ t (y + 29) us (t.2.1 1132 6)) (y + 30) us (t.1 1132 4)) (y + 31) us w) (y + 32) us (t.1 1132 15)) (y + 35) us (-1)) y 34 (nI (us + 1))).1 y k = _
      rw [hIk k3, hIo (by omega), hIo (by omega), hIo (by omega), hIo (by omega)]; rfl
  · rw [o2.2.1 14 (by decide) (by decide) (by decide) (by decide) (by decide)]
    show (sI (sI (sI (sI (sI (sJ t (y + 29) us (t.2.1 1132 6)) (y + 30) us (t.1 1132 4)) (y + 31) us w) (y + 32) us (t.1 1132 15)) (y + 35) us (-1)) y 34 (nI (us + 1))).1 1132 14 = _
    rw [hIo (by omega), hIo (by omega), hIo (by omega), hIo (by omega), hIo (by omega)]; rfl
  · rw [(o2.1 y (by omega)).1]
    show (sI (sI (sI (sI (sI (sJ t (y + 29) us (t.2.1 1132 6)) (y + 30) us (t.1 1132 4)) (y + 31) us w) (y + 32) us (t.1 1132 15)) (y + 35) us (-1)) y 34 (nI (us + 1))).1 y 27 = _
    rw [hIk (by decide), hIo (by omega), hIo (by omega), hIo (by omega), hIo (by omega)]; rfl
  · rw [(o2.1 y (by omega)).1]
    show (sI (sI (sI (sI (sI (sJ t (y + 29) us (t.2.1 1132 6)) (y + 30) us (t.1 1132 4)) (y + 31) us w) (y + 32) us (t.1 1132 15)) (y + 35) us (-1)) y 34 (nI (us + 1))).1 y 31 = _
    rw [hIk (by decide), hIo (by omega), hIo (by omega), hIo (by omega), hIo (by omega)]; rfl
  · rw [(o2.1 (y + 35) (by omega)).1]
    show (sI (sI (sI (sI (sI (sJ t (y + 29) us (t.2.1 1132 6)) (y + 30) us (t.1 1132 4)) (y + 31) us w) (y + 32) us (t.1 1132 15)) (y + 35) us (-1)) y 34 (nI (us + 1))).1 (y + 35) u = _
    rw [hIo (by omega), hIk (by omega), hIo (by omega), hIo (by omega), hIo (by omega)]; rfl
  · rw [(o2.1 (y + 35) (by omega)).1]
    show (sI (sI (sI (sI (sI (sJ t (y + 29) us (t.2.1 1132 6)) (y + 30) us (t.1 1132 4)) (y + 31) us w) (y + 32) us (t.1 1132 15)) (y + 35) us (-1)) y 34 (nI (us + 1))).1 (y + 35) us = _
    rw [hIo (by omega), hIe]
  · rw [(o2.1 (y + 29) (by omega)).2.1]
    show (sJ t (y + 29) us (t.2.1 1132 6)).2.1 (y + 29) us = _
    rw [gJ, if_pos ⟨rfl, rfl⟩]
  · rw [(o2.1 (y + 30) (by omega)).1]
    show (sI (sI (sI (sI (sI (sJ t (y + 29) us (t.2.1 1132 6)) (y + 30) us (t.1 1132 4)) (y + 31) us w) (y + 32) us (t.1 1132 15)) (y + 35) us (-1)) y 34 (nI (us + 1))).1 (y + 30) us = _
    rw [hIo (by omega), hIo (by omega), hIo (by omega), hIo (by omega), hIe]
  · rw [(o2.1 (y + 31) (by omega)).1]
    show (sI (sI (sI (sI (sI (sJ t (y + 29) us (t.2.1 1132 6)) (y + 30) us (t.1 1132 4)) (y + 31) us w) (y + 32) us (t.1 1132 15)) (y + 35) us (-1)) y 34 (nI (us + 1))).1 (y + 31) us = _
    rw [hIo (by omega), hIo (by omega), hIo (by omega), hIe]
  · rw [(o2.1 (y + 32) (by omega)).1]
    show (sI (sI (sI (sI (sI (sJ t (y + 29) us (t.2.1 1132 6)) (y + 30) us (t.1 1132 4)) (y + 31) us w) (y + 32) us (t.1 1132 15)) (y + 35) us (-1)) y 34 (nI (us + 1))).1 (y + 32) us = _
    rw [hIo (by omega), hIo (by omega), hIe]
/-- both stop at what is no name -/
theorem no_name {a w : Int32} (hn : 5000 ≤ n) (hS : S0 U len x y s0 t0) (h : ER U len x y s0 t0 K np tz G bl ub q dp nd cd us s t) (hk : ¬ tkKind U len q = 1) : ∃ s2 t2, f57 n a s = some (-1, s2) ∧ f189 n w t = some (0, t2) ∧ FC len x s0 (zft U len q 2) q s2 ∧ FM len y t0 (zft U len q 2) q t2 := by
  obtain ⟨s2, e1, g1⟩ := er_ref (n := n) (f := 2) hS h
  obtain ⟨t2, e2, g2⟩ := er_cant (n := n) hS h
  refine ⟨s2, t2, ?_, ?_, g1, g2⟩
  · unfold f57
    rw [ER_k h, if_neg hk, show f32 n 2 s = _ from e1]; rfl
  · unfold f189
    rw [m_goes h.2.1.2.2, yb1_s, if_neg (by decide), tm_name hn h.2.1.2.1, yb1_s, zone_0 hk, if_pos rfl, e2]; rfl
theorem er_use {a w : Int32} {c0 : Nat} (hQ : HQ n U len x y s0 t0 K tz G ub) (h : ER U len x y s0 t0 K np tz G bl ub q dp nd cd us s t) (hc : c0 < 9) (ha : a = nI c0 ∧ w = nI c0 ∨ a = 9 ∧ c0 = 0 ∧ w = 10) (hlt : us < nd + ub) (H : Hb (fun u => u.2) K np y tz (f189 n w t)) : Rs (fun f z p => p.1 = -1 ∧ FC len x s0 f z p.2) (fun f z p => FM len y t0 f z p.2) (ZB K y tz) (fun p r => r.1 = nI us ∧ tkKind U len q = 1 ∧ EN U len x y s0 t0 K np tz G bl ub cd us (tkNx U len q) dp nd cd (us + 1) s t p.2 r.2 ∧ (K = 0 → p.1 = 0) ∧ (K = 1 → uQ G y bl tz a p.1 us q)) (f57 n a s) (f189 n w t) := by
  obtain ⟨hn, hS, hub, -, -, -⟩ := id hQ
  by_cases hk : tkKind U len q = 1
  · have n3 := h.2.2.2.2.1.2.2
    obtain ⟨t2, e2, g2, o2, v1, v2, v3, v4, v5, v6, w1, w2, w3, w4⟩ := use_189 (w := w) hn hS h hk (by omega)
    rcases use_raw hQ h hk hc ha hlt g2 o2 v1 v2 v3 v4 v5 v6 w1 w2 w3 w4 (Hb_L1 H e2) with ⟨v, s2, e1, hE, h0, h1⟩ | ⟨s2, z, e1, hz, hF⟩
    · exact Rs_A e1 e2 ⟨rfl, hk, hE, h0, h1⟩
    · exact Rs_C hz ⟨_, e1, rfl, hF⟩
  · obtain ⟨s2, t2, e1, e2, g1, g2⟩ := no_name (a := a) (w := w) hn hS h hk
    exact Rs_B ⟨_, e1, rfl, g1⟩ ⟨_, e2, g2⟩
end ZPP
