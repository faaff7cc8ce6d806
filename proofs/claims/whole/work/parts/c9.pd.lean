/-! the data, joined -/
section ZQH
variable {U : Nat → Nat} {len x y n K np bl ub q dp nd cd us es na nb q2 dp2 nd2 cd2 us2 r nb0 cd0 mE na2 nb2 : Nat} {s0 t0 tz s t s2 t2 s3 t3 sS tS : zσ} {G G2 G3 : Nat → Nat → Nat} {c m L E : Nat → Int32} {cs : Nat → Nat}
variable {a0 a1 a2 b0 b1 b2 c1 c2 er er1 er2 eb eb1 eb2 : Nat}
theorem Fut_tr (h1 : Fut x y a0 a1 b0 b1 c1 er eb G s t G2 s2 t2) (h2 : Fut x y a0 a1 b0 b1 c1 er eb G2 s2 t2 G3 s3 t3) : Fut x y a0 a1 b0 b1 c1 er eb G s t G3 s3 t3 := by
  obtain ⟨p1, p2, p3, p4⟩ := h1
  obtain ⟨q1, q2, q3, q4⟩ := h2
  refine ⟨GX_tr p1 q1 (Nat.le_refl _) (Nat.le_refl _), fun r e1 e2 => ?_, fun b e1 e2 => ?_, fun p hp => ⟨(q4 p hp).1.trans (p4 p hp).1, (q4 p hp).2.trans (p4 p hp).2⟩⟩
  · obtain ⟨u1, u2⟩ := p2 r e1 e2
    obtain ⟨v1, v2⟩ := q2 r e1 e2
    exact ⟨⟨fun j a b => (v1.1 j a b).trans (u1.1 j a b), fun j a b c d => (v1.2.1 j a b c d).trans (u1.2.1 j a b c d), fun k hk => ⟨(v1.2.2 k hk).1.trans (u1.2.2 k hk).1, (v1.2.2 k hk).2.trans (u1.2.2 k hk).2⟩⟩, fun e => ⟨(v2 e).1.trans (u2 e).1, (v2 e).2.trans (u2 e).2⟩⟩
  · obtain ⟨u1, u2⟩ := p3 b e1 e2
    obtain ⟨v1, v2⟩ := q3 b e1 e2
    exact ⟨⟨fun j a => (v1.1 j a).trans (u1.1 j a), v1.2.1.trans u1.2.1, fun w hw => (v1.2.2 w hw).trans (u1.2.2 w hw)⟩, fun e => ⟨(v2 e).1.trans (u2 e).1, (v2 e).2.trans (u2 e).2⟩⟩
theorem Fut_L (hK : K = 1) (hG : GX G G2 a1 b1) (h1 : LC x K na nb cd s s2) (h2 : LM y na nb t t2) (l1 : a1 ≤ na) (l2 : b1 ≤ nb) (l3 : c1 ≤ cd) : Fut x y a0 a1 b0 b1 c1 er eb G s t G2 s2 t2 := by
  obtain ⟨-, -, -, -, -, p6, p7, p8⟩ := h1
  obtain ⟨-, -, -, -, -, q6, q7, q8, q9⟩ := h2
  refine ⟨hG, fun r e1 e2 => ⟨⟨fun j a b => p6 _ _ (by omega) (by omega) (by omega), fun j a b c d => q6 _ _ (by omega) (by omega), fun k hk => ⟨q7 _ _ (by omega) (by omega), q7 _ _ (by omega) (by omega)⟩⟩, fun _ => ⟨p6 _ _ (by omega) (by omega) (by omega), q6 _ _ (by omega) (by omega)⟩⟩, fun b e1 e2 => ⟨⟨fun j a => p7 _ _ (by omega) (by omega) (by omega), q8 _ (by omega), fun w hw => q9 _ (by omega)⟩, fun _ => ⟨p7 _ _ (by omega) (by omega) (by omega), p7 _ _ (by omega) (by omega) (by omega)⟩⟩, fun p hp => p8 hK p (by omega)⟩
theorem PD_mv (h : PD x y a0 a1 b0 b1 c1 er eb tz G s t) (hf : Fut x y a0 a1 b0 b1 c1 er eb G s t G2 s2 t2) : PD x y a0 a1 b0 b1 c1 er eb tz G2 s2 t2 := fun G3 s3 t3 h3 => h G3 s3 t3 (Fut_tr hf h3)
theorem dN_m {na na2 : Nat} {h : zσ} (l : na ≤ na2) (hd : dN G x y na r s h) : dN G x y na2 r s h := by
  rcases hd with h | ⟨q, h1, h2⟩
  · exact Or.inl h
  · exact Or.inr ⟨q, by omega, h2⟩
theorem dB_m {na na2 nb nb2 b : Nat} {h : zσ} (l1 : na ≤ na2) (l2 : nb ≤ nb2) (hd : dB G x y na nb b s h) : dB G x y na2 nb2 b s h := by
  obtain ⟨h1, h2, h3, h4, h5, h6, h7, l, k1, k2, k3, k4⟩ := hd
  refine ⟨h1, ?_, h3, h4, fun e => ⟨by have := (h5 e).1; omega, (h5 e).2⟩, fun e => ⟨by have := (h6 e).1; omega, (h6 e).2⟩, ⟨by have := h7.1; omega, h7.2⟩, l, k1, k2, fun r hr => ⟨(k3 r hr).1, (k3 r hr).2.1, by have := (k3 r hr).2.2; omega⟩, k4⟩
  rcases h2 with h2 | ⟨r, e1, e2⟩
  · exact Or.inl h2
  · exact Or.inr ⟨r, by omega, e2⟩
/-- two ranges, side by side -/
theorem PD_join (h1 : PD x y a0 a1 b0 b1 c1 er1 eb1 tz G s t) (h2 : PD x y a1 a2 b1 b2 c2 er2 eb2 tz G s t) (l1 : a0 ≤ a1 ∧ a1 ≤ a2) (l2 : b0 ≤ b1 ∧ b1 ≤ b2) (l3 : c1 ≤ c2) (e1 : er = er1 ∨ (er1 < a0 ∨ a1 ≤ er1) ∧ (er < a0 ∨ a1 ≤ er)) (e2 : er = er2 ∨ (er2 < a1 ∨ a2 ≤ er2) ∧ (er < a1 ∨ a2 ≤ er)) (e3 : eb = eb1 ∨ eb < b0 ∨ b1 ≤ eb) (e4 : eb = eb2 ∨ eb < b1 ∨ b2 ≤ eb) : PD x y a0 a2 b0 b2 c2 er eb tz G s t := by
  intro G2 s2 t2 hf
  obtain ⟨f1, f2, f3, f4⟩ := hf
  obtain ⟨d1, d2⟩ := h1 G2 s2 t2 ⟨GX_le f1 (by omega) (by omega), fun r p q => ⟨(f2 r p (by omega)).1, fun e => (f2 r p (by omega)).2 (by omega)⟩, fun b p q => ⟨(f3 b p (by omega)).1, fun e => (f3 b p (by omega)).2 (by omega)⟩, fun p hp => f4 p (by omega)⟩
  obtain ⟨g1, g2⟩ := h2 G2 s2 t2 ⟨f1, fun r p q => ⟨(f2 r (by omega) q).1, fun e => (f2 r (by omega) q).2 (by omega)⟩, fun b p q => ⟨(f3 b (by omega) q).1, fun e => (f3 b (by omega) q).2 (by omega)⟩, f4⟩
  refine ⟨fun r p q => ?_, fun b p q => ?_⟩
  · by_cases hr : r < a1
    · exact ⟨(d1 r p hr).1, fun e => dN_m (by omega) ((d1 r p hr).2 (by omega))⟩
    · exact ⟨(g1 r (by omega) q).1, fun e => (g1 r (by omega) q).2 (by omega)⟩
  · by_cases hb : b < b1
    · exact dB_m (by omega) (by omega) (d2 b p hb)
    · exact g2 b (by omega) q
/-- none -/
theorem PD_0 : PD x y a0 a0 b0 b0 c1 er eb tz G s t := fun _ _ _ _ => ⟨fun r p q => by omega, fun b p q => by omega⟩
/-! another block, other ghosts -/
theorem ER_G {bl2 : Nat} (h : ER U len x y s0 t0 K np tz G bl ub q dp nd cd us s t) (h5 : G2 5 bl2 = G 5 bl) (h12 : ∀ k, G2 12 k = G 12 k) : ER U len x y s0 t0 K np tz G2 bl2 ub q dp nd cd us s t := by
  obtain ⟨a1, a2, a3, a4, a5, a6, a7, a8⟩ := h
  refine ⟨a1, a2, a3, a4, a5, a6, a7, fun hK => ?_⟩
  obtain ⟨b1, b2, b3, b4, b5⟩ := a8 hK
  refine ⟨b1, b2, b3, b4, ?_⟩
  rcases b5 with b5 | ⟨p, m, p1, p2, p3, p4, p5, p6, p7, p8, p9⟩
  · exact Or.inl b5
  · exact Or.inr ⟨p, m, p1, p2, p3, p4, p5, p6, by rw [h5]; exact p7, by rw [h12]; exact p8, p9⟩
theorem SR_G {bl2 : Nat} (h : SR U len x y s0 t0 K np tz G bl ub q dp nd cd us es na nb s t) (h5 : G2 5 bl2 = G 5 bl) (h12 : ∀ k, G2 12 k = G 12 k) (h6 : ∀ k, G2 6 k = G 6 k) : SR U len x y s0 t0 K np tz G2 bl2 ub q dp nd cd us es na nb s t := by
  obtain ⟨a1, a2, a3, a4, a5, a6, a7⟩ := h
  exact ⟨ER_G a1 h5 h12, a2, a3, a4, a5, a6, fun hK p hp => a7 hK p (by rw [← h6]; exact hp)⟩
theorem nmT_G (h6 : ∀ k, G2 6 k = G 6 k) (h : nmT G x y s0 tz) : nmT G2 x y s0 tz := by
  have e : ∀ c i, i < G2 6 c ↔ i < G 6 c := fun c i => by rw [h6]
  obtain ⟨h1, N, n1, n2, n3, n4, n5⟩ := h
  refine ⟨fun k hk => by rw [h6]; exact h1 k hk, N, n1, n2, fun k hk => ?_, fun c i hc hi => n4 c i hc ((e c i).mp hi), n5⟩
  obtain ⟨c, i, p1, p2, p3⟩ := n3 k hk
  exact ⟨c, i, p1, (e c i).mpr p2, p3⟩
theorem HQ_G (hQ : HQ n U len x y s0 t0 K tz G ub) (h6 : ∀ k, G2 6 k = G 6 k) (h13 : ∀ k, G2 13 k = G 13 k) : HQ n U len x y s0 t0 K tz G2 ub := ⟨hQ.1, hQ.2.1, hQ.2.2.1, fun p => by rw [h13]; exact hQ.2.2.2.1 p, fun hK => nmT_G h6 (hQ.2.2.2.2.1 hK), hQ.2.2.2.2.2.1, fun hK => by rw [h6]; exact hQ.2.2.2.2.2.2 hK⟩
theorem HG_G (hG : HG K y tz G) (h0 : ∀ k, G2 0 k = G 0 k) (h6 : ∀ k, G2 6 k = G 6 k) (h12 : ∀ k, G2 12 k = G 12 k) : HG K y tz G2 := fun hK => by
  obtain ⟨a1, a2, a3, a4, a5⟩ := hG hK
  refine ⟨by rw [h0]; exact a1, by rw [h0]; exact a2, by rw [h0]; exact a3, by rw [h0]; exact a4, fun p hp => ?_⟩
  rw [h12]
  exact a5 p (by rw [← h6]; exact hp)
/-- a block's ghosts -/
def Gbl (G : Nat → Nat → Nat) (b k w l rt st : Nat) : Nat → Nat → Nat := fun f i => if i = b ∧ f = 2 then k else if i = b ∧ f = 3 then w else if i = b ∧ f = 4 then l else if i = b ∧ f = 5 then rt else if i = b ∧ f = 7 then st else G f i
theorem Gbl_o {b k w l rt st f i : Nat} (h : ¬ (i = b ∧ (f = 2 ∨ f = 3 ∨ f = 4 ∨ f = 5 ∨ f = 7))) : Gbl G b k w l rt st f i = G f i := by
  unfold Gbl
  rw [if_neg (by omega), if_neg (by omega), if_neg (by omega), if_neg (by omega), if_neg (by omega)]
theorem Gbl_b {b k w l rt st : Nat} : Gbl G b k w l rt st 2 b = k ∧ Gbl G b k w l rt st 3 b = w ∧ Gbl G b k w l rt st 4 b = l ∧ Gbl G b k w l rt st 5 b = rt ∧ Gbl G b k w l rt st 7 b = st := by
  unfold Gbl
  simp
theorem Gbl_X {k w l rt st : Nat} : GX G (Gbl G nb k w l rt st) na nb := ⟨fun i => ⟨Gbl_o (by omega), Gbl_o (by omega), Gbl_o (by omega), Gbl_o (by omega)⟩, fun i _ => ⟨Gbl_o (by omega), Gbl_o (by omega)⟩, fun b _ => ⟨Gbl_o (by omega), Gbl_o (by omega), Gbl_o (by omega), Gbl_o (by omega), Gbl_o (by omega)⟩⟩
/-- what is told of a block when it begins -/
def dH (G : Nat → Nat → Nat) (na nb b : Nat) : Prop :=
  (G 2 b = 0 → G 5 b = G 3 b ∧ G 7 b = b) ∧
  (G 2 b = 1 → G 5 b = 8 + G 3 b ∧ G 7 b = b) ∧
  (G 2 b = 2 ∨ G 2 b = 3 → G 3 b < na ∧ G 4 b = G 4 (G 1 (G 3 b)) + 1 ∧ G 5 b = G 5 (G 1 (G 3 b)) ∧ G 7 b = b ∧ G 10 (G 3 b) = G 2 b + 3 ∧ G 1 (G 3 b) < nb) ∧
  (G 2 b = 4 → G 3 b < nb ∧ G 4 b = G 4 (G 3 b) + 1 ∧ G 5 b = G 5 (G 3 b) ∧ G 7 b = G 7 (G 3 b)) ∧
  (G 7 b < nb ∧ G 2 (G 7 b) ≠ 4 ∧ G 5 (G 7 b) = G 5 b ∧ G 4 (G 7 b) ≤ G 4 b)
theorem dH_X {b : Nat} (hb : b < nb) (h : dH G na nb b) (hX : GX G G2 na nb) : dH G2 na nb b := by
  obtain ⟨x1, x2, x3, x4, x5⟩ := hX.2.2 b hb
  obtain ⟨h1, h2, h3, h4, h5⟩ := h
  unfold dH
  rw [x1, x2, x3, x4, x5]
  refine ⟨h1, h2, fun e => ?_, fun e => ?_, ?_⟩
  · obtain ⟨k1, k2, k3, k4, k5, k6⟩ := h3 e
    obtain ⟨r1, r2⟩ := hX.2.1 _ k1
    obtain ⟨y1, y2, y3, y4, y5⟩ := hX.2.2 _ k6
    rw [r1, r2, y3, y4]; exact ⟨k1, k2, k3, k4, k5, k6⟩
  · obtain ⟨k1, k2, k3, k4⟩ := h4 e
    obtain ⟨y1, y2, y3, y4, y5⟩ := hX.2.2 _ k1
    rw [y3, y4, y5]; exact ⟨k1, k2, k3, k4⟩
  · obtain ⟨k1, k2, k3, k4⟩ := h5
    obtain ⟨y1, y2, y3, y4, y5⟩ := hX.2.2 _ k1
    rw [y1, y3, y4]; exact ⟨k1, k2, k3, k4⟩
/-- what comes of a block -/
def BA (U : Nat → Nat) (len x y : Nat) (s0 t0 : zσ) (K np : Nat) (tz : zσ) (G : Nat → Nat → Nat) (q dp na nb cd : Nat) (s t : zσ) (a b : Int32 × zσ) : Prop := (a.1 = nI nb ∧ b.1 = nI nb) ∧ ∃ q2 nd2 cd2 us2 es2 na2 nb2, (q + 2 ≤ q2 ∧ na ≤ na2 ∧ nb + 1 ≤ nb2 ∧ cd ≤ cd2) ∧ SR U len x y s0 t0 K np tz G nb (4 * na2) q2 dp nd2 cd2 us2 es2 na2 nb2 a.2 b.2 ∧ (LC x K na nb cd s a.2 ∧ LM y na nb t b.2) ∧ (K = 1 → a.2.1 1004 12 = -1 → ∀ Gc, CP G Gc nb → dH Gc na (nb + 1) nb → ∃ G', GX Gc G' na (nb + 1) ∧ PD x y na na2 nb nb2 cd2 na2 nb tz G' a.2 b.2 ∧ GK (nb + 1) nb2 G')
/-- a pair of functions that read blocks, at depths no less than D -/
def BPP (n : Nat) (U : Nat → Nat) (len x y : Nat) (s0 t0 : zσ) (K np : Nat) (tz : zσ) (D : Nat) (gc : Int32 → Int32 → zσ → Option (Int32 × zσ)) (gm : zσ → Option (Int32 × zσ)) : Prop := (∀ G q dp nd cd us es na nb s t kd w, D ≤ dp → HQ n U len x y s0 t0 K tz G 0 → HG K y tz G → SR U len x y s0 t0 K np tz G nb (4 * na) q dp nd cd us es na nb s t → 6 * nb + 4 ≤ q + dp → (K = 1 → kd = nI (G 2 nb) ∧ w = nI (G 3 nb) ∧ G 4 nb = dp + 1 ∧ G 2 nb ≤ 4) → Hb (fun u => u.2) K np y tz (gm t) → Rs (fun f z p => (p.1 = -1 ∨ zin? p.1 700 = true) ∧ FC len x s0 f z p.2) (fun f z p => FM len y t0 f z p.2) (ZB K y tz) (BA U len x y s0 t0 K np tz G q dp na nb cd s t) (gc kd w s) (gm t)) ∧ (∀ f z kd w s, FC len x s0 f z s → gc kd w s = some (-1, s)) ∧ (∀ f z t, FM len y t0 f z t → gm t = some (0, t)) ∧ (∀ t, bk (fun u => u.2) (LR np y tz) (gm t) t)
end ZQH
