/-! blocks, both readers: a block begins; all depths -/
section ZQQ
variable {U : Nat → Nat} {len x y n K np bl ub q dp nd cd us es na nb q2 dp2 nd2 cd2 us2 r nb0 cd0 mE na2 nb2 na0 er : Nat} {s0 t0 tz s t s2 t2 s3 t3 sS tS : zσ} {G G2 G3 : Nat → Nat → Nat} {gc : Int32 → Int32 → zσ → Option (Int32 × zσ)} {gm : zσ → Option (Int32 × zσ)} {l : List Nat} {kd w0 : Int32} {P : (Nat → Nat → Nat) → Prop}
theorem e20_n {i : Nat} (hn : nb < 2000) (hi : i < 20) : zin? ((20 : Int32) * nI nb + nI i) 40000 = true ∧ nx ((20 : Int32) * nI nb + nI i) = 20 * nb + i := by
  have e20 : (20 : Int32) * nI nb + nI i = nI (20 * nb + i) := by rw [nLmul]; exact naddN _ _
  rw [e20]
  exact ⟨zin_nI (by omega) (by decide), nx_nI (by omega)⟩
theorem fm_57 {f z : Nat} (hn : 5000 ≤ n) (hS : S0 U len x y s0 t0) (hnb : nb < 2000) : ∀ (d i j : Nat) (t : zσ), i + d = 20 → d < j → FM len y t0 f z t → fw (fun p => FM len y t0 f z p.2) (f181_57 n gm j y (nI nb) (nI i) t) := by
  have hy := hS.2.1
  intro d
  induction d with
  | zero =>
    intro i j t hd hj h
    obtain ⟨j, rfl⟩ : ∃ j0, j = j0 + 1 := ⟨j - 1, by omega⟩
    obtain ⟨n, rfl⟩ : ∃ n0, n = n0 + 1 := ⟨n - 1, by omega⟩
    rw [f181_57, if_neg (show ¬ nI i < 20 from nI_nlt (b := 20) (by omega) (by omega))]
    exact fms_167 h (fw_i1 rfl (fm_92 hn hS h))
  | succ d ih =>
    intro i j t hd hj h
    obtain ⟨j, rfl⟩ : ∃ j0, j = j0 + 1 := ⟨j - 1, by omega⟩
    obtain ⟨h1, h2⟩ := e20_n (nb := nb) (i := i) hnb (by omega)
    rw [f181_57, if_pos (show nI i < 20 from nI_lt (b := 20) (by omega) (by decide)), if_pos h1, h2, nI_1]
    exact fms_I h hy (by omega) (fun h3 => ih (i + 1) j _ (by omega) (by omega) h3)
/-- the reference's twenty signals of a new block -/
theorem l57 (hnb : nb < 2000) : ∀ (d i j : Nat) (t : zσ), i + d = 20 → d < j → ∃ t', (∀ a, a ≠ y + 14 → t'.1 a = t.1 a) ∧ t'.2 = t.2 ∧ (∀ k, (k < 20 * nb + i ∨ 20 * nb + 20 ≤ k) → t'.1 (y + 14) k = t.1 (y + 14) k) ∧ (∀ w, i ≤ w → w < 20 → t'.1 (y + 14) (20 * nb + w) = -1) ∧ f181_57 n gm j y (nI nb) (nI i) t = (yb1 (f167 n t') fun v2 u1 => if v2 = (0 : Int32) then f181_92 n gm n y (nI nb) u1 else yb0 (f164 n u1) fun u3 => f181_92 n gm n y (nI nb) u3) := by
  intro d
  induction d with
  | zero =>
    intro i j t hd hj
    obtain ⟨j, rfl⟩ : ∃ j0, j = j0 + 1 := ⟨j - 1, by omega⟩
    refine ⟨t, fun _ _ => rfl, rfl, fun _ _ => rfl, fun w a b => by omega, ?_⟩
    rw [f181_57, if_neg (show ¬ nI i < 20 from nI_nlt (b := 20) (by omega) (by omega))]
  | succ d ih =>
    intro i j t hd hj
    obtain ⟨j, rfl⟩ : ∃ j0, j = j0 + 1 := ⟨j - 1, by omega⟩
    obtain ⟨h1, h2⟩ := e20_n (nb := nb) (i := i) hnb (by omega)
    obtain ⟨t', a1, a2, a3, a4, a5⟩ := ih (i + 1) j (sI t (y + 14) (20 * nb + i) (-1)) (by omega) (by omega)
    refine ⟨t', fun a ha => by rw [a1 a ha, hIo ha], a2, fun k hk => ?_, fun w b1 b2 => ?_, ?_⟩
    · rw [a3 k (by omega), hIx (by omega)]
    · by_cases e : w = i
      · subst e
        rw [a3 _ (by omega), hIe]
      · exact a4 w (by omega) b2
    · rw [f181_57, if_pos (show nI i < 20 from nI_lt (b := 20) (by omega) (by decide)), if_pos h1, h2, nI_1]
      exact a5
theorem ER_m (hS : S0 U len x y s0 t0) (h : ER U len x y s0 t0 K np tz G bl ub q dp nd cd us s t) (h1 : ∀ a, a ≠ y → a ≠ y + 13 → a ≠ y + 14 → t2.1 a = t.1 a) (h2 : ∀ k, k ≠ 13 → t2.1 y k = t.1 y k) (h3 : t2.2 = t.2) (hl : K = 1 → Lt np y t2 tz) : ER U len x y s0 t0 K np tz G bl ub q dp nd cd us s t2 := by
  have hy := hS.2.1
  obtain ⟨a1, ⟨a2, a2'⟩, a3, ⟨d1, d2, d3⟩, ⟨n1, n2, n3⟩, ⟨k1, k2, k3⟩, ⟨u1, u2⟩, a8⟩ := h
  have e32 : t2.1 1132 = t.1 1132 := h1 1132 (by omega) (by omega) (by omega)
  refine ⟨a1, ⟨⟨⟨fun a b1 b2 => ?_, fun a b1 b2 b3 b4 => ?_, ?_, fun k hk => ?_, fun k hk => ?_⟩, ?_⟩, ⟨TM_fr a2'.1 (fun k _ => by rw [e32]) (h1 1133 (by omega) (by omega) (by omega)) (by rw [h3]), by rw [e32]; exact a2'.2⟩⟩, a3, ⟨d1, by rw [e32]; exact d2, d3⟩, ⟨n1, by rw [h2 27 (by decide)]; exact n2, n3⟩, ⟨k1, by rw [h2 31 (by decide)]; exact k2, k3⟩, ⟨by rw [h2 34 (by decide)]; exact u1, u2⟩, fun hK => ⟨hl hK, (a8 hK).2.1, (a8 hK).2.2.1, (a8 hK).2.2.2.1, by rw [e32]; exact (a8 hK).2.2.2.2⟩⟩
  · rw [h1 a (by omega) (by omega) (by omega)]; exact a2.1.1 a b1 b2
  · rw [h3]; exact a2.1.2.1 a b1 b2 b3 b4
  · rw [h3]; exact a2.1.2.2.1
  · rw [e32]; exact a2.1.2.2.2.1 k hk
  · rw [h1 (y + 6) (by omega) (by omega) (by omega)]; exact a2.1.2.2.2.2 k hk
  · rw [e32]; exact a2.2
/-- the class's new block -/
def nbC (x nb : Nat) (kd w : Int32) (s : zσ) : zσ := sI (sI (sI (sI (sI (sI (sI s (x + 29) 6 (nI (nb + 1))) (x + 30) nb kd) (x + 31) nb w) (x + 32) nb (-1)) (x + 33) nb (-1)) (x + 34) nb (-1)) (x + 35) nb 0
theorem f42_v {w : Int32} (h : s.1 (x + 29) 6 = nI nb) (hb : nb < 700) : f42 n (x + 29) kd w s = some (nI nb, nbC x nb kd w s) := by
  have hin : zin? (nI nb) 700 = true := zin_nI hb (by decide)
  unfold f42
  rw [h, if_pos (show nI nb < 700 from nI_lt (b := 700) hb (by decide))]
  simp only [zlet, if_pos hin, nx_nI (show nb < 2 ^ 31 by omega), nI_1]
  rfl
theorem nbC_o {w : Int32} {a j : Nat} (h1 : ¬ (a = x + 29 ∧ j = 6)) (h2 : ¬ (x + 30 ≤ a ∧ a ≤ x + 35 ∧ j = nb)) : (nbC x nb kd w s).1 a j = s.1 a j := by
  unfold nbC
  rw [hIx (by omega), hIx (by omega), hIx (by omega), hIx (by omega), hIx (by omega), hIx (by omega), hIx (by omega)]
theorem nbC_b {w : Int32} : (nbC x nb kd w s).1 (x + 29) 6 = nI (nb + 1) ∧ (nbC x nb kd w s).1 (x + 30) nb = kd ∧ (nbC x nb kd w s).1 (x + 31) nb = w ∧ (nbC x nb kd w s).1 (x + 32) nb = -1 ∧ (nbC x nb kd w s).1 (x + 33) nb = -1 := by
  unfold nbC
  refine ⟨?_, ?_, ?_, ?_, ?_⟩
  · rw [hIo (by omega), hIo (by omega), hIo (by omega), hIo (by omega), hIo (by omega), hIo (by omega), hIe]
  · rw [hIo (by omega), hIo (by omega), hIo (by omega), hIo (by omega), hIo (by omega), hIe]
  · rw [hIo (by omega), hIo (by omega), hIo (by omega), hIo (by omega), hIe]
  · rw [hIo (by omega), hIo (by omega), hIo (by omega), hIe]
  · rw [hIo (by omega), hIo (by omega), hIe]
theorem blk_b {D : Nat} (hn : 5000 ≤ n) (hS : S0 U len x y s0 t0) (hg : ∀ t, bk (fun u => u.2) (LR np y tz) (gm t) t) (hI : ∀ dp, D ≤ dp → dp < 12 → BPP n U len x y s0 t0 K np tz (dp + 1) gc gm) : BPP n U len x y s0 t0 K np tz D (f40b n gc) (f181b n gm) := by
  have hx := hS.1
  have hy := hS.2.1
  refine ⟨fun G q dp nd cd us es na nb s t kd w hD hQ hG hR h6 hkd H => ?_, fun f z kd w s h => ?_, fun f z t h => ?_, fun t => b181b hn hy hg t⟩
  rotate_left
  · unfold f40b
    rw [fc_41 h (by decide), yb1_s, if_pos rfl]
  · unfold f181b
    rw [m_goes0 (fm_ne h)]; rfl
  have hE := hR.1
  obtain ⟨hq, hU, hlen⟩ := ER_q hE
  have hM := hE.2.1.2
  have hd12 := hE.2.2.2.1.2.2
  have s123 : f177 n 123 t = some (zone (decide (tkKind U len q = 123)), t) := tm_sign (c := 123) hM.1 (by decide) (by decide)
  have hnb7 : nb < 700 := by omega
  have em0 : f181b n gm t = if tkKind U len q = 123 then (yb0 (f182 n t) fun u5 => zrd 12 (u5.2.2 1132 12) fun a6 => zlet ((u5.1 a6 13)) fun v7 => zlet (sI u5 a6 13 ((u5.1 a6 13) + (1 : Int32))) fun u8 => if zin? v7 2000 = true then zlet (sI u8 (a6 + 13) (nx v7) (-1 : Int32)) fun u9 => f181_57 n gm n a6 v7 (0 : Int32) u9 else none) else (yb0 (f172 n t) fun u10 => some ((0 : Int32), u10)) := by
    unfold f181b
    rw [m_goes hM.2, yb1_s, if_neg n10, s123, yb1_s]
    by_cases e : tkKind U len q = 123
    · rw [zone_1 e, if_neg n10, if_pos e]
    · rw [zone_0 e, if_pos rfl, if_neg e]
  by_cases hk : tkKind U len q = 123
  · have hk0 : ¬ tkKind U len q = 0 := by rw [hk]; decide
    have hql := tk_lt hE (by rw [hk]; decide)
    have hgt := tkNx_gt (U := U) hql
    rw [em0, if_pos hk] at H
    rw [em0, if_pos hk]
    unfold f40b
    rcases Nat.lt_or_ge dp 12 with hlt | hge
    · obtain ⟨c1, h1⟩ := er_dp (v := dp + 1) hS (by omega) hE
      have hB := hI dp hD hlt
      obtain ⟨hB1, hB2, hB3, hB4⟩ := id hB
      have hyt : t.2.2 1132 12 = some y := ER_y hS hE
      have e13 : t.1 y 13 = nI nb := hR.2.2.1.2.1
      have e182 := (er_182 (n := n) hS hE).1 hlt
      let tA := sI (sI (sI t 1132 14 (nI (dp + 1))) y 13 (nI (nb + 1))) (y + 13) nb (-1)
      obtain ⟨tB, a1, a2, a3, a4, a5⟩ := l57 (n := n) (gm := gm) (y := y) (nb := nb) (by omega) 20 0 n tA (by omega) (by omega)
      have hA13 : ∀ a, a ≠ y → a ≠ y + 13 → tA.1 a = (sI t 1132 14 (nI (dp + 1))).1 a := fun a b1 b2 => by
        show (sI (sI (sI t 1132 14 (nI (dp + 1))) y 13 (nI (nb + 1))) (y + 13) nb (-1)).1 a = _
        rw [hIo b2, hIo b1]
      have hAy : ∀ k, k ≠ 13 → tA.1 y k = (sI t 1132 14 (nI (dp + 1))).1 y k := fun k hk => by
        show (sI (sI (sI t 1132 14 (nI (dp + 1))) y 13 (nI (nb + 1))) (y + 13) nb (-1)).1 y k = _
        rw [hIo (by omega), hIk hk]
      have g1 : tB.1 1132 9 = 0 := by
        rw [a1 1132 (by omega), hA13 1132 (by omega) (by omega)]; exact h1.2.1.2.2
      have em1 : (yb0 (f182 n t) fun u5 => zrd 12 (u5.2.2 1132 12) fun a6 => zlet ((u5.1 a6 13)) fun v7 => zlet (sI u5 a6 13 ((u5.1 a6 13) + (1 : Int32))) fun u8 => if zin? v7 2000 = true then zlet (sI u8 (a6 + 13) (nx v7) (-1 : Int32)) fun u9 => f181_57 n gm n a6 v7 (0 : Int32) u9 else none) = yb0 (f164 n tB) fun u3 => f181_92 n gm n y (nI nb) u3 := by
        rw [e182, yb0_s, show (sI t 1132 14 (nI (dp + 1))).2.2 1132 12 = some y from hyt, grd (gck12 hy)]
        show (if zin? ((sI t 1132 14 (nI (dp + 1))).1 y 13) 2000 = true then f181_57 n gm n y ((sI t 1132 14 (nI (dp + 1))).1 y 13) 0 (sI (sI (sI t 1132 14 (nI (dp + 1))) y 13 ((sI t 1132 14 (nI (dp + 1))).1 y 13 + 1)) (y + 13) (nx ((sI t 1132 14 (nI (dp + 1))).1 y 13)) (-1)) else none) = _
        rw [hIo (show y ≠ 1132 by omega), e13, if_pos (zin_nI (show nb < 2000 by omega) (by decide)), nx_nI (show nb < 2 ^ 31 by omega), nI_1]
        show f181_57 n gm n y (nI nb) (nI 0) tA = _
        rw [a5, m_goes g1, yb1_s, if_neg n10]
      rw [em1] at H ⊢
      have hyB : tB.2.2 1132 12 = some y := by rw [a2]; exact hyt
      have hLB : K = 1 → Lt np y tB tz := Hb_bk H (bk_y0 LR_tr (b164 hy) (fun u => lb92 hn hy hB4 _ _ _)) hyB
      have hEB : ER U len x y s0 t0 K np tz G nb (4 * na) q (dp + 1) nd cd us (sI s 1004 9 (nI (dp + 1))) tB := ER_m hS h1 (fun a b1 b2 b3 => by rw [a1 a b3, hA13 a b1 b2]) (fun k hk => by rw [a1 y (by omega), hAy k hk]) a2 hLB
      have e41 : (yb1 (f41 n 123 s) fun v2 u1 => if v2 = (0 : Int32) then some ((-1 : Int32), u1) else zrd 0 (u1.2.2 1004 6) fun a3 => yb1 (f42 n a3 kd w u1) fun v5 u4 => if v5 = (-1 : Int32) then (yb1 (f32 n (3 : Int32) u4) fun v7 u6 => some (v7, u6)) else f40_35 n gc n v5 (0 : Int32) u4) = yb0 (f26 n (sI s 1004 9 (nI (dp + 1)))) fun u1 => zrd 0 (u1.2.2 1004 6) fun a3 => yb1 (f42 n a3 kd w u1) fun v5 u4 => if v5 = (-1 : Int32) then (yb1 (f32 n (3 : Int32) u4) fun v7 u6 => some (v7, u6)) else f40_35 n gc n v5 (0 : Int32) u4 := by
        rw [show f41 n 123 s = _ from (er_41 (c := 123) hn hS hE hk hk0).1 hlt]
        cases f26 n (sI s 1004 9 (nI (dp + 1))) <;> rfl
      rw [e41]
      refine er_n hn hS hEB H (fun u => lb92 hn hy hB4 _ _ _) (fun s2 t2 hab hq2 H2 => ?_)
      have hE2 := hab.2
      have o1 := hab.1.1
      have o2 := hab.1.2.1
      have e29 : s2.1 (x + 29) 6 = nI nb := by
        rw [o1.1 (x + 29) (by omega) (by omega) (by omega) (by omega) (by omega), hIo (by omega)]; exact hR.2.2.1.1
      rw [(BC_rf hS hE2.1.1).2.2.1, grd (gck9 hx).2.2, f42_v e29 hnb7, yb1_s, if_neg (fun e => (neqM (by omega)).mp e)]
      have nb0' := nbC_b (x := x) (nb := nb) (kd := kd) (w := w) (s := s2)
      have gC : ∀ a j, ¬ (a = x + 29 ∧ j = 6) → ¬ (x + 30 ≤ a ∧ a ≤ x + 35 ∧ j = nb) → (nbC x nb kd w s2).1 a j = s2.1 a j := fun a j b1 b2 => nbC_o b1 b2
      have tB13 : ∀ a, a ≠ y → a ≠ 1132 → a ≠ y + 13 → a ≠ y + 14 → tB.1 a = t.1 a := fun a b1 b2 b3 b4 => by rw [a1 a b4, hA13 a b1 b3, hIo b2]
      have tBy : ∀ k, k ≠ 13 → tB.1 y k = t.1 y k := fun k hk => by rw [a1 y (by omega), hAy k hk, hIo (by omega)]
      have tB32 : ∀ k, k ≠ 14 → tB.1 1132 k = t.1 1132 k := fun k hk => by rw [a1 1132 (by omega), hA13 1132 (by omega) (by omega), hIk hk]
      have tBb : ∀ b, b < nb → tB.1 (y + 13) b = t.1 (y + 13) b := fun b hb => by
        rw [a1 (y + 13) (by omega)]
        show (sI (sI (sI t 1132 14 (nI (dp + 1))) y 13 (nI (nb + 1))) (y + 13) nb (-1)).1 (y + 13) b = _
        rw [hIx (by omega), hIo (by omega), hIo (by omega)]
      have tB14 : ∀ k, k < 20 * nb → tB.1 (y + 14) k = t.1 (y + 14) k := fun k hk => by
        rw [a3 k (by omega), hA13 (y + 14) (by omega) (by omega), hIo (by omega)]
      have tBn : tB.1 (y + 13) nb = -1 := by rw [a1 (y + 13) (by omega)]; exact hIe
      have tBc : tB.1 y 13 = nI (nb + 1) := by
        rw [a1 y (by omega)]
        show (sI (sI (sI t 1132 14 (nI (dp + 1))) y 13 (nI (nb + 1))) (y + 13) nb (-1)).1 y 13 = _
        rw [hIo (by omega), hIe]
      obtain ⟨-, ⟨p1, p2, p3⟩, ⟨p4, p5, p6⟩, ⟨p7, p8⟩, p9, p10, p11⟩ := id hR
      have hs4 : ∀ k, k ≠ 9 → k ≠ 10 → k ≠ 11 → s2.1 1004 k = s.1 1004 k := fun k b1 b2 b3 => by rw [o1.2.2.2.1 k b1 b2 b3, hIk b1]
      have hE3 : ER U len x y s0 t0 K np tz G nb (4 * na) (tkNx U len q) (dp + 1) nd cd us (nbC x nb kd w s2) t2 := by
        have e1 : ER U len x y s0 t0 K np tz G nb (4 * na) (tkNx U len q) (dp + 1) nd cd us (sI s2 (x + 29) 6 (nI (nb + 1))) t2 := by
          obtain ⟨⟨b1, b1'⟩, b2, b3, ⟨d1, d2, d3⟩, ⟨n1, n2, n3⟩, ⟨k1, k2, k3⟩, b7, b8⟩ := hE2
          refine ⟨⟨BC_I hx (by omega) (by omega) b1, CG_I (by omega) (by omega) (by omega) b1'⟩, b2, by rw [hIo (by omega)]; exact b3, ⟨by rw [hIo (by omega)]; exact d1, d2, d3⟩, ⟨by rw [hIo (by omega)]; exact n1, n2, n3⟩, ⟨by rw [hIo (by omega)]; exact k1, k2, k3⟩, b7, fun hK => ⟨(b8 hK).1, (b8 hK).2.1, ?_, (b8 hK).2.2.2.1, ?_⟩⟩
          · rw [hIo (by omega)]; exact (b8 hK).2.2.1
          · rw [hIo (by omega)]; exact (b8 hK).2.2.2.2
        unfold nbC
        exact ER_wC hS (by omega) (ER_wC hS (by omega) (ER_wC hS (by omega) (ER_wC hS (by omega) (ER_wC hS (by omega) (ER_wC hS (by omega) e1)))))
      have hBI : BI U len x y s0 t0 K np tz G s t na nb cd (dp + 1) kd w (fun _ => True) na [] (tkNx U len q) nd cd us es na (nb + 1) (nbC x nb kd w s2) t2 := by
        refine ⟨⟨hE3, ⟨?_, ?_, p3⟩, ⟨nb0'.1, ?_, by omega⟩, ⟨?_, p8⟩, ?_, MI_fr p10 ?_ (fun u hu => ?_) (fun u b1 b2 => by omega) (Nat.le_refl _), fun hK p hp => ?_⟩, ⟨Nat.le_refl _, Nat.le_refl _, Nat.le_refl _⟩, ⟨?_, ?_⟩, ⟨nb0'.2.1, nb0'.2.2.1⟩, ⟨?_, fun r hr => absurd hr (List.not_mem_nil), ⟨[], rfl, List.nodup_nil, fun w hw => absurd hw (List.not_mem_nil)⟩, fun u hu => Or.inl ⟨?_, rfl⟩⟩, fun hK hm Gc hCP hdH => ⟨Gc, GX_rf, fun r hr => absurd hr (List.not_mem_nil), trivial, PD_0, fun b p1 p2 => absurd p1 (by omega)⟩⟩
        · rw [gC _ _ (by omega) (by omega), o1.2.2.2.2 9 (by decide) (by decide), hIo (by omega)]; exact p1
        · rw [o2.2.2.2.2 16 (by decide) (by decide) (by decide), tBy 16 (by decide)]; exact p2
        · rw [o2.2.2.2.2 13 (by decide) (by decide) (by decide)]; exact tBc
        · rw [o2.2.2.2.2 28 (by decide) (by decide) (by decide), tBy 28 (by decide)]; exact p7
        · rw [gC _ _ (by omega) (by omega), hs4 8 (by decide) (by decide) (by decide), o2.2.2.2.1 15 (by decide) (by decide) (by decide) (by decide) (by decide) (by decide) (by decide) (by decide), tB32 15 (by decide)]; exact p9
        · rw [gC _ _ (by omega) (by omega), hs4 12 (by decide) (by decide) (by decide)]
        · rw [hab.1.2.2.2.1 u hu, tB13 (y + 35) (by omega) (by omega) (by omega) (by omega)]
        · rw [gC _ _ (by omega) (by omega), o1.1 (x + 18) (by omega) (by omega) (by omega) (by omega) (by omega), hIo (by omega)]; exact p11 hK p hp
        · refine ⟨fun a b1 b2 b3 => ?_, fun a b1 => ?_, ?_, fun k b1 b2 b3 b4 => ?_, fun e => ?_, fun a r b1 b2 b3 => ?_, fun a b b1 b2 b3 => ?_, fun hK p hp => ?_⟩
          · funext k
            rw [gC _ _ (by omega) (by omega), o1.1 a b1 b2 (by omega) (by omega) (by omega), hIo b2]
          · exact (o1.2.1 a b1)
          · exact o1.2.2.1
          · rw [gC _ _ (by omega) (by omega)]; exact hs4 k b1 b2 b3
          · rw [gC _ _ (by omega) (by omega), hs4 12 (by decide) (by decide) (by decide)] at e; exact e
          · rw [gC _ _ (by omega) (by omega), o1.1 a (by omega) (by omega) (by omega) (by omega) (by omega), hIo (by omega)]
          · rw [gC _ _ (by omega) (by omega), o1.1 a (by omega) (by omega) (by omega) (by omega) (by omega), hIo (by omega)]
          · have := hab.1.2.2.1 hK p hp
            rw [gC _ _ (by omega) (by omega), gC _ _ (by omega) (by omega), this.1, this.2, hIo (by omega), hIo (by omega)]; exact ⟨rfl, rfl⟩
        · refine ⟨fun a b1 b2 b3 => ?_, fun a b1 b2 => ?_, ?_, fun k b1 b2 b3 b4 b5 b6 b7 b8 => ?_, fun k b1 b2 b3 b4 b5 b6 => ?_, fun a r b1 b2 => ?_, fun a k b1 b2 => ?_, fun b hb => ?_, fun k hk => ?_⟩
          · rw [o2.1 a b1 b2 (by omega), tB13 a b2 b1 (by omega) (by omega)]
          · rw [o2.2.1 a b1 b2, a2]; rfl
          · rw [o2.2.2.1, a2]; rfl
          · rw [o2.2.2.2.1 k b1 b2 b3 b4 b5 b6 b7 b8, tB32 k b8]
          · rw [o2.2.2.2.2 k b3 b5 b6, tBy k b1]
          · rw [o2.1 a (by omega) (by omega) (by omega), tB13 a (by omega) (by omega) (by omega) (by omega)]
          · rw [o2.1 a (by omega) (by omega) (by omega), tB13 a (by omega) (by omega) (by omega) (by omega)]
          · rw [o2.1 (y + 13) (by omega) (by omega) (by omega)]; exact tBb b hb
          · rw [o2.1 (y + 14) (by omega) (by omega) (by omega)]; exact tB14 k hk
        · exact nb0'.2.2.2.2
        · rw [o2.1 (y + 14) (by omega) (by omega) (by omega)]; exact a4 u (by omega) hu
      refine blk_L1 (dpo := dp) hQ hG hB rfl (fun hK => hkd hK) (len - tkNx U len q) (tkNx U len q) nd cd us es na (nb + 1) 0 n n [] (nbC x nb kd w s2) t2 (Nat.le_refl _) hBI ⟨nb0'.2.2.2.1, ?_⟩ (Nat.zero_le _) (by omega) (by omega) (by omega) H2
      rw [o2.1 (y + 13) (by omega) (by omega) (by omega)]; exact tBn
    · obtain ⟨t2, e2, g2⟩ := (er_182 (n := n) hS hE).2 (by omega)
      obtain ⟨s2, e1, g1⟩ := (er_41 (c := 123) hn hS hE hk hk0).2 (by omega)
      have e13 : t2.1 y 13 = nI nb := by
        have h13 := e2
        unfold f182 f182_25 at h13
        rw [m_goes hM.2, yb1_s, if_neg n10, hE.2.2.2.1.2.1, if_pos (show nI dp = 12 by rw [show dp = 12 by omega]; rfl)] at h13
        obtain ⟨t3, e3, g3, o3⟩ := m_wrong (n := n) (f := 3) (by decide) hE.2.1.2
        rw [show f173 n 3 (t.1 1132 4) t = _ from e3, yb0_s] at h13
        cases h13
        rw [hIo (by omega), o3.1 y (by omega)]; exact hR.2.2.1.2.1
      refine Rs_B (f := 3) (z := q) ⟨(-1, s2), by rw [show f41 n 123 s = _ from e1]; rfl, Or.inl rfl, g1⟩ ?_
      rw [e2, yb0_s, BM_rf hS g2.1, grd (gck12 hy), e13]
      refine fw_z (fms_I g2 hy (by omega) (fun g3 => fw_i1 (zin_nI (show nb < 2000 by omega) (by decide)) (fms_I g3 hy (by omega) (fun g4 => ?_))))
      exact fm_57 hn hS (by omega) 20 0 n _ (by omega) (by omega) g4
  · rw [em0, if_neg hk]
    obtain ⟨s2, x1, g1⟩ := er_ref (n := n) (f := 2) hS hE
    obtain ⟨t2, x2, g2⟩ := er_cant (n := n) hS hE
    refine Rs_B (f := zft U len q 2) (z := q) ⟨(-1, s2), ?_, Or.inl rfl, g1⟩ ⟨(0, t2), by rw [x2]; rfl, g2⟩
    unfold f40b f41
    rw [ER_k hE, if_neg hk, show f32 n 2 s = _ from x1]; rfl
theorem blk_all (hn : 5000 ≤ n) (hS : S0 U len x y s0 t0) : ∀ k : Nat, BPP n U len x y s0 t0 K np tz (12 - k) (f40 n (k + 1)) (f181 n (k + 1)) := by
  intro k
  induction k with
  | zero => exact blk_b (gc := f40 n 0) (gm := f181 n 0) hn hS (b181 hn hS.2.1 0) (fun dp h1 h2 => by omega)
  | succ k ih => exact blk_b (gc := f40 n (k + 1)) (gm := f181 n (k + 1)) hn hS (b181 hn hS.2.1 _) (fun dp h1 h2 => ⟨fun G q dp' nd cd us es na nb s t kd w hd => ih.1 G q dp' nd cd us es na nb s t kd w (by omega), ih.2⟩)
end ZQQ
