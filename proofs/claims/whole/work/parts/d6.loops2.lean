/-! blocks, both readers: statements of a block, its end -/
section ZQO
variable {U : Nat → Nat} {len x y n K np bl ub q dp nd cd us es na nb q2 dp2 nd2 cd2 us2 r nb0 cd0 mE na2 nb2 na0 er : Nat} {s0 t0 tz s t s2 t2 s3 t3 sS tS : zσ} {G G2 G3 : Nat → Nat → Nat} {gc : Int32 → Int32 → zσ → Option (Int32 × zσ)} {gm : zσ → Option (Int32 × zσ)} {l : List Nat} {kd w0 : Int32} {P : (Nat → Nat → Nat) → Prop}
/-- the first and last statement of block bl: none yet, or first and last -/
def FLS (x y bl na0 na : Nat) (fl : Option (Nat × Nat)) (s t : zσ) : Prop := match fl with
  | none => s.1 (x + 32) bl = -1 ∧ t.1 (y + 13) bl = -1
  | some (f, e) => s.1 (x + 32) bl = nI f ∧ t.1 (y + 13) bl = nI f ∧ na0 ≤ f ∧ f < na ∧ na0 ≤ e ∧ e < na ∧ s.1 (x + 25) e = -1 ∧ t.1 (y + 16) e = -1
def flP (bl : Nat) (fl : Option (Nat × Nat)) (G : Nat → Nat → Nat) : Prop := match fl with
  | none => True
  | some (f, e) => G 1 f = bl ∧ G 1 e = bl
def flE (na : Nat) (fl : Option (Nat × Nat)) : Nat := match fl with
  | none => na
  | some (_, e) => e
def flV (fl : Option (Nat × Nat)) : Int32 := match fl with
  | none => -1
  | some (_, e) => nI e
theorem dH_m {b : Nat} (l1 : na ≤ na2) (l2 : nb ≤ nb2) (h : dH G na nb b) : dH G na2 nb2 b := by
  obtain ⟨h1, h2, h3, h4, h5⟩ := h
  exact ⟨h1, h2, fun e => ⟨by have := (h3 e).1; omega, (h3 e).2.1, (h3 e).2.2.1, (h3 e).2.2.2.1, (h3 e).2.2.2.2.1, by have := (h3 e).2.2.2.2.2; omega⟩, fun e => ⟨by have := (h4 e).1; omega, (h4 e).2⟩, ⟨by have := h5.1; omega, h5.2⟩⟩
/-- the last statement's next is set, one more is read -/
theorem PD_joinN {a0 a1 a2 b0 b1 b2 c1 c2 e eb1 eb2 eb : Nat} (h1 : PD x y a0 a1 b0 b1 c1 e eb1 tz G s t) (h2 : PD x y a1 a2 b1 b2 c2 a1 eb2 tz G s t) (he : a0 ≤ e ∧ e < a1) (l1 : a0 ≤ a1 ∧ a1 < a2) (l2 : b0 ≤ b1 ∧ b1 ≤ b2) (l3 : c1 ≤ c2) (e3 : eb = eb1 ∨ eb < b0 ∨ b1 ≤ eb) (e4 : eb = eb2 ∨ eb < b1 ∨ b2 ≤ eb) (hG : G 1 e = bl ∧ G 1 a1 = bl) (hn : s.1 (x + 25) e = nI a1 ∧ t.1 (y + 16) e = nI a1) : PD x y a0 a2 b0 b2 c2 a1 eb tz G s t := by
  intro G2 s2 t2 hf
  obtain ⟨f1, f2, f3, f4⟩ := hf
  obtain ⟨d1, d2⟩ := h1 G2 s2 t2 ⟨GX_le f1 (by omega) (by omega), fun r p q => ⟨(f2 r p (by omega)).1, fun e => (f2 r p (by omega)).2 (by omega)⟩, fun b p q => ⟨(f3 b p (by omega)).1, fun e => (f3 b p (by omega)).2 (by omega)⟩, fun p hp => f4 p (by omega)⟩
  obtain ⟨g1, g2⟩ := h2 G2 s2 t2 ⟨f1, fun r p q => ⟨(f2 r (by omega) q).1, fun e => (f2 r (by omega) q).2 (by omega)⟩, fun b p q => ⟨(f3 b (by omega) q).1, fun e => (f3 b (by omega) q).2 (by omega)⟩, f4⟩
  refine ⟨fun r p q => ?_, fun b p q => ?_⟩
  · by_cases hr : r < a1
    · refine ⟨(d1 r p hr).1, fun e' => ?_⟩
      by_cases hre : r = e
      · subst hre
        have hfn := (f2 r p q).2 (by omega)
        refine Or.inr ⟨a1, by omega, ?_, ?_, ?_⟩
        · rw [(f1.2.1 a1 (by omega)).1, (f1.2.1 r (by omega)).1, hG.1, hG.2]
        · rw [hfn.1]; exact hn.1
        · rw [hyb_t (by omega), hfn.2]; exact hn.2
      · exact dN_m (by omega) ((d1 r p hr).2 hre)
    · exact ⟨(g1 r (by omega) q).1, fun e => (g1 r (by omega) q).2 (by omega)⟩
  · by_cases hb : b < b1
    · exact dB_m (by omega) (by omega) (d2 b p hb)
    · exact g2 b (by omega) q
theorem Fut_wN {a0 a1 b0 b1 c1 e eb : Nat} {v w : Int32} : Fut x y a0 a1 b0 b1 c1 e eb G s t G (sI s (x + 25) e v) (sI t (y + 16) e w) :=
  ⟨GX_rf, fun r' p1 p2 => ⟨⟨fun j a b => hIx (by omega), fun j a b c d => hIx (by omega), fun k hk => ⟨hIx (by omega), hIx (by omega)⟩⟩, fun _ => ⟨hIx (by omega), hIx (by omega)⟩⟩, fun b p1 p2 => ⟨⟨fun j a => hIx (by omega), hIx (by omega), fun w hw => hIx (by omega)⟩, fun _ => ⟨hIx (by omega), hIx (by omega)⟩⟩, fun p hp => ⟨hIx (by omega), hIx (by omega)⟩⟩
/-- one statement more in the block: the class's and the reference's pointer to it -/
theorem BI_st {fl : Option (Nat × Nat)} {a b : zσ} (hS : S0 U len x y s0 t0) (h : BI U len x y s0 t0 K np tz G sS tS na0 bl cd0 dp kd w0 (flP bl fl) (flE na fl) l q nd cd us es na nb s t) (hf : FLS x y bl na0 na fl s t) (hA : SA U len x y s0 t0 K np tz G bl q dp na nb cd s t (nI na, a) (nI na, b)) : ∃ fl2 q2 nd2 cd2 us2 es2 na2 nb2, q + 1 ≤ q2 ∧ flV fl2 = nI na ∧ BI U len x y s0 t0 K np tz G sS tS na0 bl cd0 dp kd w0 (flP bl fl2) (flE na2 fl2) l q2 nd2 cd2 us2 es2 na2 nb2 (match fl with | none => sI a (x + 32) bl (nI na) | some (_, e) => sI a (x + 25) e (nI na)) (match fl with | none => sI b (y + 13) bl (nI na) | some (_, e) => sI b (y + 16) e (nI na)) ∧ FLS x y bl na0 na2 fl2 (match fl with | none => sI a (x + 32) bl (nI na) | some (_, e) => sI a (x + 25) e (nI na)) (match fl with | none => sI b (y + 13) bl (nI na) | some (_, e) => sI b (y + 16) e (nI na)) := by
  have hx := hS.1
  have hy := hS.2.1
  obtain ⟨-, q2, nd2, cd2, us2, es2, na2, nb2, ⟨k1, k2, k3, k4⟩, hR2, ⟨hLC, hLM⟩, ⟨n1, n2⟩, hD⟩ := hA
  have hR2 : SR U len x y s0 t0 K np tz G bl (4 * na2) q2 dp nd2 cd2 us2 es2 na2 nb2 a b := hR2
  have hLC : LC x K na nb cd s a := hLC
  have hLM : LM y na nb t b := hLM
  have n1 : a.1 (x + 25) na = -1 := n1
  have n2 : b.1 (y + 16) na = -1 := n2
  obtain ⟨h1, ⟨a1, a2, a3⟩, ⟨h3, h4⟩, ⟨h5, h6⟩, h7, h8⟩ := h
  have hbk : ∀ a' b', x + 30 ≤ a' → a' ≤ x + 35 → b' < nb → a.1 a' b' = s.1 a' b' := fun a' b' e1 e2 e3 => hLC.2.2.2.2.2.2.1 a' b' e1 e2 e3
  have h14 : ∀ w, w < 20 → b.1 (y + 14) (20 * bl + w) = t.1 (y + 14) (20 * bl + w) := fun w hw => hLM.2.2.2.2.2.2.2.2 _ (by omega)
  cases fl with
  | none =>
    refine ⟨some (na, na), q2, nd2, cd2, us2, es2, na2, nb2, k1, rfl, ⟨SR_wM hS (by omega) (SR_wC hS (by omega) hR2), ⟨by omega, by omega, by omega⟩, ⟨LC_tr (LC_tr h3 hLC a1 (by omega) a3) (LC_w (na := na0) (nb := bl) (cd := cd0) hx (by omega)) (by omega) (by omega) (by omega), LM_tr (LM_tr h4 hLM a1 (by omega)) (LM_w (na := na0) (nb := bl) hy (by omega)) (by omega) (by omega)⟩, ⟨?_, ?_⟩, CH_fr h7 k3 ?_ (fun r hr => ⟨?_, ?_⟩) (fun w hw => ?_), fun hK hm Gc hCP hdH => ?_⟩, ⟨hIe, hIe, by omega, by omega, by omega, by omega, ?_, ?_⟩⟩
    · show (sI a (x + 32) bl (nI na)).1 (x + 30) bl = kd
      rw [hIo (by omega), hbk _ _ (by omega) (by omega) (by omega)]; exact h5
    · show (sI a (x + 32) bl (nI na)).1 (x + 31) bl = w0
      rw [hIo (by omega), hbk _ _ (by omega) (by omega) (by omega)]; exact h6
    · show (sI a (x + 32) bl (nI na)).1 (x + 33) bl = _
      rw [hIo (by omega)]; exact hbk _ _ (by omega) (by omega) (by omega)
    · show (sI a (x + 32) bl (nI na)).1 (x + 34) r = _
      rw [hIo (by omega)]; exact hbk _ _ (by omega) (by omega) hr
    · show (sI a (x + 32) bl (nI na)).1 (x + 35) r = _
      rw [hIo (by omega)]; exact hbk _ _ (by omega) (by omega) hr
    · show (sI b (y + 13) bl (nI na)).1 (y + 14) (20 * bl + w) = _
      rw [hIo (by omega)]; exact h14 w hw
    · have hma : a.1 1004 12 = -1 := by
        have hm : (sI a (x + 32) bl (nI na)).1 1004 12 = -1 := hm
        rw [← hm]; exact (hIx (by omega)).symm
      obtain ⟨G1, g1, g2, -, g4, g5⟩ := h8 hK (hLC.2.2.2.2.1 hma) Gc hCP hdH
      obtain ⟨G2, v1, v2, v3, v4⟩ := hD hK hma G1 (CP_X hCP g1 (by omega))
      refine ⟨G2, GX_tr g1 v1 (by omega) (by omega), fun r hr => ?_, ⟨v2, v2⟩, ?_, fun b q1 q2 => (if e1 : b < nb then by rw [(v1.2.2 b e1).1]; exact g5 b q1 e1 else v4 b (by omega) q2)⟩
      · have hrn := (h7.2.1 r hr).2
        exact ⟨by rw [(v1.2.2 r hrn).1]; exact (g2 r hr).1, by rw [(v1.2.2 r hrn).2.1]; exact (g2 r hr).2⟩
      · have p1 := PD_mv g4 (Fut_L hK v1 hLC hLM (Nat.le_refl _) (Nat.le_refl _) (Nat.le_refl _))
        have p2 := PD_join (er := na) (eb := nb2) p1 v3 (by omega) (by omega) (by omega) (Or.inl rfl) (Or.inl rfl) (by omega) (by omega)
        exact PD_mv p2 (Fut_wB (bl := bl) (by omega) (by omega))
    · show (sI a (x + 32) bl (nI na)).1 (x + 25) na = -1
      rw [hIo (by omega)]; exact n1
    · show (sI b (y + 13) bl (nI na)).1 (y + 16) na = -1
      rw [hIo (by omega)]; exact n2
  | some fe =>
    obtain ⟨f, e⟩ := fe
    obtain ⟨f1, f2, f3, f4, f5, f6, f7, f8⟩ := hf
    refine ⟨some (f, na), q2, nd2, cd2, us2, es2, na2, nb2, k1, rfl, ⟨SR_wM hS (by omega) (SR_wC hS (by omega) hR2), ⟨by omega, by omega, by omega⟩, ⟨LC_tr (LC_tr h3 hLC a1 (by omega) a3) (LC_w (na := na0) (nb := bl) (cd := cd0) hx (by omega)) (by omega) (by omega) (by omega), LM_tr (LM_tr h4 hLM a1 (by omega)) (LM_w (na := na0) (nb := bl) hy (by omega)) (by omega) (by omega)⟩, ⟨?_, ?_⟩, CH_fr h7 k3 ?_ (fun r hr => ⟨?_, ?_⟩) (fun w hw => ?_), fun hK hm Gc hCP hdH => ?_⟩, ⟨?_, ?_, by omega, by omega, by omega, by omega, ?_, ?_⟩⟩
    · show (sI a (x + 25) e (nI na)).1 (x + 30) bl = kd
      rw [hIo (by omega), hbk _ _ (by omega) (by omega) (by omega)]; exact h5
    · show (sI a (x + 25) e (nI na)).1 (x + 31) bl = w0
      rw [hIo (by omega), hbk _ _ (by omega) (by omega) (by omega)]; exact h6
    · show (sI a (x + 25) e (nI na)).1 (x + 33) bl = _
      rw [hIo (by omega)]; exact hbk _ _ (by omega) (by omega) (by omega)
    · show (sI a (x + 25) e (nI na)).1 (x + 34) r = _
      rw [hIo (by omega)]; exact hbk _ _ (by omega) (by omega) hr
    · show (sI a (x + 25) e (nI na)).1 (x + 35) r = _
      rw [hIo (by omega)]; exact hbk _ _ (by omega) (by omega) hr
    · show (sI b (y + 16) e (nI na)).1 (y + 14) (20 * bl + w) = _
      rw [hIo (by omega)]; exact h14 w hw
    · have hma : a.1 1004 12 = -1 := by
        have hm : (sI a (x + 25) e (nI na)).1 1004 12 = -1 := hm
        rw [← hm]; exact (hIx (by omega)).symm
      obtain ⟨G1, g1, g2, ⟨g3, g3'⟩, g4, g5⟩ := h8 hK (hLC.2.2.2.2.1 hma) Gc hCP hdH
      obtain ⟨G2, v1, v2, v3, v4⟩ := hD hK hma G1 (CP_X hCP g1 (by omega))
      refine ⟨G2, GX_tr g1 v1 (by omega) (by omega), fun r hr => ?_, ⟨by rw [(v1.2.1 f f4).1]; exact g3, v2⟩, ?_, fun b q1 q2 => (if e1 : b < nb then by rw [(v1.2.2 b e1).1]; exact g5 b q1 e1 else v4 b (by omega) q2)⟩
      · have hrn := (h7.2.1 r hr).2
        exact ⟨by rw [(v1.2.2 r hrn).1]; exact (g2 r hr).1, by rw [(v1.2.2 r hrn).2.1]; exact (g2 r hr).2⟩
      · have g4 : PD x y na0 na (bl + 1) nb cd e nb tz G1 s t := g4
        have p1 := PD_mv (PD_mv g4 (Fut_L hK v1 hLC hLM (Nat.le_refl _) (Nat.le_refl _) (Nat.le_refl _))) (Fut_wN (v := nI na) (w := nI na))
        have p2 := PD_mv v3 (show Fut x y na na2 nb nb2 cd2 na nb2 G2 a b G2 (sI a (x + 25) e (nI na)) (sI b (y + 16) e (nI na)) from ⟨GX_rf, fun r' p1 p2 => ⟨⟨fun j a b => hIx (by omega), fun j a b c d => hIx (by omega), fun k hk => ⟨hIx (by omega), hIx (by omega)⟩⟩, fun _ => ⟨hIx (by omega), hIx (by omega)⟩⟩, fun b p1 p2 => ⟨⟨fun j a => hIx (by omega), hIx (by omega), fun w hw => hIx (by omega)⟩, fun _ => ⟨hIx (by omega), hIx (by omega)⟩⟩, fun p hp => ⟨hIx (by omega), hIx (by omega)⟩⟩)
        show PD x y na0 na2 (bl + 1) nb2 cd2 na nb2 tz G2 (sI a (x + 25) e (nI na)) (sI b (y + 16) e (nI na))
        exact PD_joinN (bl := bl) (eb := nb2) p1 p2 ⟨f5, f6⟩ (by omega) (by omega) (by omega) (by omega) (by omega) ⟨by rw [(v1.2.1 e f6).1]; exact g3', v2⟩ ⟨hIe, hIe⟩
    · show (sI a (x + 25) e (nI na)).1 (x + 32) bl = _
      rw [hIo (by omega), hbk _ _ (by omega) (by omega) (by omega)]; exact f1
    · show (sI b (y + 16) e (nI na)).1 (y + 13) bl = _
      rw [hIo (by omega), hLM.2.2.2.2.2.2.2.1 _ (by omega)]; exact f2
    · show (sI a (x + 25) e (nI na)).1 (x + 25) na = -1
      rw [hIx (by omega)]; exact n1
    · show (sI b (y + 16) e (nI na)).1 (y + 16) na = -1
      rw [hIx (by omega)]; exact n2
/-- the end of a block -/
theorem BI_end {fl : Option (Nat × Nat)} {a b : zσ} {q0 dpo : Nat} (hS : S0 U len x y s0 t0) (hdp : dp = dpo + 1) (hkd : K = 1 → kd = nI (G 2 bl) ∧ w0 = nI (G 3 bl) ∧ G 4 bl = dp ∧ G 2 bl ≤ 4) (h : BI U len x y s0 t0 K np tz G sS tS na0 bl cd0 dp kd w0 (flP bl fl) (flE na fl) l q nd cd us es na nb s t) (hf : FLS x y bl na0 na fl s t) (hq : q0 + 1 ≤ q ∧ q < q2) (hab : EC x y K cd us us s t a b) (hE : ER U len x y s0 t0 K np tz G bl (4 * na) q2 dpo nd cd us a b) : BA U len x y s0 t0 K np tz G q0 dpo na0 bl cd0 sS tS (nI bl, a) (nI bl, b) := by
  have hx := hS.1
  have hy := hS.2.1
  obtain ⟨h1, ⟨a1, a2, a3⟩, ⟨h3, h4⟩, ⟨h5, h6⟩, h7, h8⟩ := h
  have hSC := SC_E hab
  have hLC : LC x K na nb cd s a := LC_C hx hSC
  have hLM : LM y na nb t b := LM_C hy hSC
  have hd12 := h1.1.2.2.2.1.2.2
  refine ⟨⟨rfl, rfl⟩, q2, nd, cd, us, es, na, nb, ⟨by omega, a1, a2, a3⟩, SR_C hS h1 hSC hE (EC_28 hab) (by omega) (Nat.le_refl _) (Nat.le_refl _), ⟨LC_tr h3 hLC a1 (by omega) a3, LM_tr h4 hLM a1 (by omega)⟩, fun hK hm Gc hCP hdH => ?_⟩
  obtain ⟨G1, g1, g2, g3, g4, g5⟩ := h8 hK (hLC.2.2.2.2.1 hm) Gc hCP hdH
  obtain ⟨c1, c2, c3, c4⟩ := hkd hK
  refine ⟨G1, g1, fun G2 s' t' hfu => ?_, g5⟩
  obtain ⟨u1, u2, u3, u4⟩ := hfu
  have p1 := PD_mv g4 (Fut_L hK GX_rf hLC hLM (Nat.le_refl _) (Nat.le_refl _) (Nat.le_refl _))
  obtain ⟨d1, d2⟩ := p1 G2 s' t' ⟨u1, fun r e1 e2 => ⟨(u2 r e1 e2).1, fun _ => (u2 r e1 e2).2 (by omega)⟩, fun b e1 e2 => ⟨(u3 b (by omega) e2).1, fun _ => (u3 b (by omega) e2).2 (by omega)⟩, u4⟩
  have hX2 : GX Gc G2 na0 (bl + 1) := GX_tr g1 u1 a1 a2
  have hCP2 : CP G G2 bl := CP_X hCP hX2 (by omega)
  refine ⟨fun r e1 e2 => ⟨(d1 r e1 e2).1, fun _ => ?_⟩, fun b' e1 e2 => ?_⟩
  · by_cases he : r = flE na fl
    · cases fl with
      | none => exfalso; have : r = na := he; omega
      | some fe =>
        obtain ⟨f, e⟩ := fe
        have he : r = e := he
        subst he
        obtain ⟨-, -, -, -, -, -, f7, f8⟩ := hf
        have hfn := (u2 r e1 e2).2 (by omega)
        refine Or.inl ⟨?_, ?_⟩
        · rw [hfn.1, hLC.2.2.2.2.2.1 _ _ (by omega) (by omega) e2]; exact f7
        · rw [hyb_t (by omega), hfn.2, hLM.2.2.2.2.2.1 _ _ (by omega) e2]; exact f8
    · exact (d1 r e1 e2).2 he
  · by_cases hb : b' = bl
    · subst hb
      have hFB := (u3 b' (by omega) e2).1
      have hsb : ∀ j, j < 4 → s'.1 (x + 30 + j) b' = s.1 (x + 30 + j) b' := fun j hj => (hFB.1 j hj).trans (hLC.2.2.2.2.2.2.1 _ _ (by omega) (by omega) e2)
      have htb : t'.1 (y + 13) b' = t.1 (y + 13) b' := hFB.2.1.trans (hLM.2.2.2.2.2.2.2.1 _ e2)
      have ht14 : ∀ w, w < 20 → t'.1 (y + 14) (20 * b' + w) = t.1 (y + 14) (20 * b' + w) := fun w hw => (hFB.2.2 w hw).trans (hLM.2.2.2.2.2.2.2.2 _ (by omega))
      obtain ⟨i1, i2, i3, i4, i5⟩ := dH_m (na2 := na) (nb2 := nb) a1 a2 (dH_X (by omega) hdH hX2)
      refine ⟨⟨?_, ?_, ?_, ?_, ?_⟩, ?_, i1, i2, fun e => ⟨(i3 e).1, (i3 e).2.1, (i3 e).2.2.1, (i3 e).2.2.2.1, (i3 e).2.2.2.2.1⟩, i4, i5, l, ?_, CH_len h7, fun r hr => ?_, fun w hw => ?_⟩
      · rw [hCP2.2.1, ← c1, ← h5]; exact hsb 0 (by omega)
      · rw [hCP2.2.1]; exact c4
      · rw [hCP2.2.2.1, ← c2, ← h6]; exact hsb 1 (by omega)
      · rw [hCP2.2.2.2.1]; omega
      · rw [hCP2.2.2.2.1]; omega
      · have e32 : s'.1 (x + 32) b' = s.1 (x + 32) b' := hsb 2 (by omega)
        rw [e32, hyb_t (by omega), htb]
        cases fl with
        | none => exact Or.inl hf
        | some fe =>
          obtain ⟨f, e⟩ := fe
          obtain ⟨f1, f2, f3, f4, -⟩ := hf
          refine Or.inr ⟨f, f4, ?_, f1, f2⟩
          rw [(u1.2.1 f f4).1]; exact g3.1
      · have e33 : s'.1 (x + 33) b' = s.1 (x + 33) b' := hsb 3 (by omega)
        rw [e33]
        refine cR_f (fun r hr => ?_) h7.1
        have := h7.2.1 r hr
        rw [((u3 r (by omega) this.2).2 (by omega)).1, hLC.2.2.2.2.2.2.1 _ _ (by omega) (by omega) this.2]
      · have := h7.2.1 r hr
        exact ⟨by rw [(u1.2.2 r this.2).1]; exact (g2 r hr).1, by rw [(u1.2.2 r this.2).2.1]; exact (g2 r hr).2, this.2⟩
      · have hff : l.find? (fun r => decide (s'.1 (x + 35) r = nI w)) = l.find? (fun r => decide (s.1 (x + 35) r = nI w)) := find_f (fun r hr => by
          have := h7.2.1 r hr
          rw [((u3 r (by omega) this.2).2 (by omega)).2, hLC.2.2.2.2.2.2.1 _ _ (by omega) (by omega) this.2])
        rw [hyb_t (by omega), ht14 w hw, hff]
        rcases h7.2.2.2 w hw with e | ⟨r, -, e⟩
        · exact Or.inl e
        · exact Or.inr ⟨r, e⟩
    · exact d2 b' (by omega) e2
end ZQO
