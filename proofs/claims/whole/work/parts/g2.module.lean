/-! the module: both readers from their start to their end -/
section ZSB
variable {U : Nat → Nat} {len x y n j : Nat} {s t : zσ}
theorem GFc_tr {s2 s3 : zσ} (h1 : GFc x s s2) (h2 : GFc x s2 s3) : GFc x s s3 := ⟨fun a p1 p2 p3 p4 => (h2.1 a p1 p2 p3 p4).trans (h1.1 a p1 p2 p3 p4), fun a p1 p2 p3 => (h2.2.1 a p1 p2 p3).trans (h1.2.1 a p1 p2 p3), h2.2.2.trans h1.2.2⟩
theorem nI_xp (v : Int32) : ∃ m, v = nI m := by
  refine ⟨v.toBitVec.toNat, Int32.toBitVec_inj.mp ?_⟩
  show v.toBitVec = BitVec.ofNat 32 v.toBitVec.toNat
  rw [BitVec.ofNat_toNat]
  simp
theorem c_37a (h10 : s.1 1004 10 = 0) : f21_37 n (j + 1) 1 s = yb0 (f23 n (sI s 1004 7 (nI 0))) fun u => yb0 (cLp n n (nI 0) u) fun u => f21_37 n j 2 u := by
  rw [f21_37, if_neg (show ¬ (2 : Int32) < 1 from by decide), if_pos h10, if_neg (show ¬ (1 : Int32) = 2 from by decide)]
  unfold f21_60
  rw [if_pos (show zbo 0 = true from by decide)]
  simp only [zlet, e_cL, show (1 : Int32) + 1 = 2 from by decide]
  rfl
theorem c_37b (h10 : s.1 1004 10 = 0) : f21_37 n (j + 1) 2 s = yb0 (f23 n (sI s 1004 7 (nI 1))) fun u => yb0 (cLp n n (nI 0) u) fun u => f21_37 n j 3 u := by
  rw [f21_37, if_neg (show ¬ (2 : Int32) < 2 from by decide), if_pos h10, if_pos (show (2 : Int32) = 2 from rfl)]
  unfold f21_60
  rw [if_pos (show zbo 1 = true from by decide)]
  simp only [zlet, e_cL, show (2 : Int32) + 1 = 3 from by decide]
  rfl
theorem c_37c : f21_37 n (j + 1) 3 s = f21_178 n s := by
  rw [f21_37, if_pos (show (2 : Int32) < 3 from by decide)]
theorem c_37f {v : Int32} (h10 : ¬ s.1 1004 10 = 0) : f21_37 n (j + 1) v s = some (s.1 1004 10, s) := by
  have e : f21_178 n s = some (s.1 1004 10, s) := by
    unfold f21_178
    rw [if_neg h10]
    rfl
  rw [f21_37, if_neg h10, e]
  split <;> rfl
theorem c_178a (h10 : s.1 1004 10 = 0) (h12 : s.1 1004 12 = -1) : f21_178 n s = some (0, s) := by
  unfold f21_178
  rw [if_pos h10, if_pos h12, f21_207, h10]
theorem c_178b (h10 : s.1 1004 10 = 0) (h12 : ¬ s.1 1004 12 = -1) : f21_178 n s = some (7, sI (sI s 1004 10 7) 1004 11 (s.1 1004 12)) := by
  unfold f21_178
  rw [if_pos h10, if_neg h12]
  simp only [zlet, f21_207]
  rw [hIk (show 12 ≠ 10 by decide), hIk (show 10 ≠ 11 by decide), hIe]
theorem m_106f {f z : Nat} (h : MF f z t) : f163_106 n y t = some (-10 - nI f, sI (sI t 1132 1 0) 1132 2 (nI z)) := by
  have hf := h.2.2
  have h9 : ¬ t.1 1132 9 = 0 := by
    rw [h.1]
    intro e
    have := (nIe (u := f) (k := 0) (by omega) (by omega)).mp e
    omega
  unfold f163_106 f167
  rw [if_neg h9, yb1_s, if_pos rfl]
  unfold f163_117
  simp only [zlet]
  rw [if_neg (by rw [hIk (by decide)]; exact h9), hIk (show 10 ≠ 1 by decide), hIk (show 9 ≠ 2 by decide), hIk (show 9 ≠ 1 by decide), h.1, h.2.1]
theorem m_106s (h9 : t.1 1132 9 = 0) : f163_106 n y t = yb0 (f203 n t) fun u => f163_117 n y u := by
  unfold f163_106 f167
  rw [if_pos h9, yb1_s, if_neg n10]
theorem m_117f {f z : Nat} (h9 : t.1 1132 9 = nI f) (h10 : t.1 1132 10 = nI z) (hf : 0 < f ∧ f < 8) : f163_117 n y t = some (-10 - nI f, sI (sI t 1132 1 0) 1132 2 (nI z)) := by
  have n9 : ¬ t.1 1132 9 = 0 := by
    rw [h9]
    intro e
    have := (nIe (u := f) (k := 0) (by omega) (by omega)).mp e
    omega
  unfold f163_117
  simp only [zlet]
  rw [if_neg (by rw [hIk (by decide)]; exact n9), hIk (show 10 ≠ 1 by decide), hIk (show 9 ≠ 2 by decide), hIk (show 9 ≠ 1 by decide), h9, h10]
theorem GFm_z {tz t2 : zσ} (h : GFm y t tz) (h1 : t2.2 = tz.2) (h2 : ∀ a, a ≠ 1132 → a ≠ y + 33 → a ≠ y + 34 → t2.1 a = tz.1 a) (h3 : ∀ k, k ≠ 9 → k ≠ 10 → t2.1 1132 k = tz.1 1132 k) (hy : y = 1134 ∨ y = 1170) : GFm y t t2 := by
  obtain ⟨g1, g2, g3, g4, g5⟩ := h
  refine ⟨fun a p1 p2 => (h2 a p1 (by omega) (by omega)).trans (g1 a p1 p2), ?_, ?_, fun k hk => (h3 k (by omega) (by omega)).trans (g4 k hk), fun k hk => ?_⟩
  · rw [h1]; exact g2
  · rw [h1]; exact g3
  · rw [h2 (y + 6) (by omega) (by omega) (by omega)]; exact g5 k hk
/-- what comes of a text: s1 is the class behind its first writes, s2 at its end; t2 the reference before its last writes -/
def MO (n x y : Nat) (s t s1 s2 : zσ) : Prop := GFc x s1 s2 ∧ ((∃ f z t2, (0 < f ∧ f < 8) ∧ f21 n x s = some (nI f, s2) ∧ s2.1 1004 11 = nI z ∧ f163 n t = some (-10 - nI f, sI (sI t2 1132 1 0) 1132 2 (nI z)) ∧ GFm y t t2) ∨ (∃ G t2, f21 n x s = some (0, s2) ∧ f163 n t = f163_117 n y t2 ∧ t2.1 1132 9 = 0 ∧ GFm y t t2 ∧ TX G x y s2 t2))
theorem module_main (hn : 5000 ≤ n) (hx : x = 1060 ∨ x = 1096) (hy : y = 1134 ∨ y = 1170) (hT : txC U len s) (hw : wdC s) (hM : txM U len t) (hr : ∀ c, c < 9 → s.2.2 (x + 1) c = some (x + 2 + c)) (hyt : t.2.2 1132 12 = some y) (h06 : ∀ k, k < 9 → t.1 1206 k = zmost.getD k 0) (h6 : ∀ k, k < 4 → ∃ v, v < 2 ^ 31 ∧ t.1 (y + 6) k = nI v) : ∃ s1 s2, ((∀ a, a ≠ 1004 → (a < x + 11 ∨ x + 18 < a) → s1.1 a = s.1 a) ∧ s1.2.1 = s.2.1 ∧ (∀ a, a ≠ 1004 → s1.2.2 a = s.2.2 a)) ∧ MO n x y s t s1 s2 := by
  obtain ⟨j, rfl⟩ : ∃ j, n = j + 3 := ⟨n - 3, by omega⟩
  obtain ⟨s1, b1, b2, b3, b4, b5, ⟨b6, b7⟩, b8, b9⟩ := c_begin (s := s) hn hx
  obtain ⟨t1, m0, mR⟩ := m_start hn hy hyt hM
  have hT1 : txC U len s1 := ⟨hT.1, by rw [b2 1001 (by decide) (by omega)]; exact hT.2.1, fun i hi => by rw [b2 1002 (by decide) (by omega)]; exact hT.2.2 i hi⟩
  have hw1 : wdC s1 := fun i hi => by rw [b3]; exact hw i hi
  have hS1 : S0 U len x y s1 t := ⟨hx, hy, hT1, hw1, hM, b5, fun c hc => by rw [b4 (x + 1) (by omega)]; exact hr c hc, hyt, h06⟩
  obtain ⟨G0, hG0⟩ : ∃ G0 : Nat → Nat → Nat, ∀ p, G0 13 p = nx (t.1 (y + 27) p) := ⟨fun _ p => nx (t.1 (y + 27) p), fun p => rfl⟩
  have hQ1 : HQ (j + 3) U len x y s1 t 0 t G0 0 := ⟨hn, hS1, by omega, hG0, fun e => absurd e (by decide), by omega, fun e => absurd e (by decide)⟩
  have hG1 : HG 0 y t G0 := fun e => absurd e (by decide)
  obtain ⟨s2, hc⟩ := c_start (U := U) (len := len) (s := sI s1 1004 7 (nI 0)) hn hx (txC_sI4 hT1) hw1 b5.2.1 b5.2.2
  have hD1 : DR U len x y s1 t 0 0 t G0 (fun _ => 0) 0 (zsk U len 0) 0 0 0 0 0 0 s2 t1 := DR_start hn hS1 (by omega) (GFc_I (by omega) GFc_rf) (by rw [hIo (by decide)]; exact hT1.2.1) (by rw [hIk (by decide)]; exact b6) (by rw [hIk (by decide)]; exact b7) hIe (fun k hk => ⟨0, by omega, by rw [hIo (by omega)]; exact b9 k hk⟩) h6 hc mR (fun _ c hc => by rw [hIo (by omega)]; exact b8 c hc) (fun e => absurd e (by decide))
  have hl := hT.1
  have L1 := loop1 hn hS1 hQ1 hG1 len (fun _ => 0) 0 (zsk U len 0) 0 0 0 0 0 0 s2 t1 0 (j + 3) (j + 3) (by omega) (by omega) (by omega) (Nat.zero_le _) hD1
  have eC : f21 (j + 3) x s = yb0 (cLp (j + 3) (j + 3) (nI 0) s2) fun u => f21_37 (j + 3) (j + 2) 2 u := by
    rw [b1, c_37a b6, hc.1]; rfl
  have eM : f163 (j + 3) t = yb0 (mLp (j + 3) (j + 3) t1) fun u => f163_106 (j + 3) y u := by rw [m0, e_mL]
  rcases L1 with ⟨a, b, e1, e2, cnt, N, q, nd, cd, us, es, na, nb, hD, hk, hle, hTr⟩ | ⟨a, b, f, z, e1, e2, hF, hMf⟩ | ⟨a, z, e1, hZ, -⟩
  · rw [e1] at eC
    rw [e2] at eM
    have ga : GFc x s1 a := hD.1.1.1.1.1
    have hTa : txC U len a := hD.1.1.1.2.1.2.1
    have hwa : wdC a := hD.1.1.1.2.1.2.2.1
    have hS2 : S0 U len x y a t := ⟨hx, hy, hTa, hwa, hM, by rw [ga.2.2]; exact b5, fun c hc => by rw [ga.2.2]; exact hS1.2.2.2.2.2.2.1 c hc, hyt, h06⟩
    have d7 := hD.2.2.1.2.1.2.2.2.2.2
    have hQ2 : HQ (j + 3) U len x y a t 1 b (Gzp y b cnt) 0 := ⟨hn, hS2, by omega, fun p => rfl, fun _ => nm_end hD.2.2.1 (fun k hk => rfl), by omega, fun _ => d7⟩
    have hG2 : HG 1 y b (Gzp y b cnt) := Gz_HG hD
    have a10 : a.1 1004 10 = 0 := hD.1.1.1.2.2
    have a12 : a.1 1004 12 = -1 := hD.1.2.2.2.2.2.1.1 rfl
    have tr : Tr (j + 3) y b (cnt 7) (j + 3) 0 t1 := hTr (Lt_self hD)
    obtain ⟨s3, hc2⟩ := c_start (U := U) (len := len) (s := sI a 1004 7 (nI 1)) hn hx (txC_sI4 hTa) hwa hS2.2.2.2.2.2.1.2.1 hS2.2.2.2.2.2.1.2.2
    have hD2 : DR U len x y a t 1 0 b (Gzp y b cnt) (fun _ => 0) 0 (zsk U len 0) 0 0 0 0 0 0 s3 t1 := DR_start hn hS2 (by omega) (GFc_I (by omega) GFc_rf) (by rw [hIo (by decide)]; exact hTa.2.1) (by rw [hIk (by decide)]; exact a10) (by rw [hIk (by decide)]; exact a12) hIe (fun k hk => by rw [hIo (by omega)]; exact (hD.2.2.2.1.2.1 k hk).1) h6 hc2 mR (fun e => absurd e (by decide)) (fun _ => ⟨tr.1.2.1, by rw [hIo (by omega)], fun _ _ => rfl, fun p hp => by rw [hIo (by omega)]; exact Gz_18 hD p hp⟩)
    have L2 := loop2 hn hS2 hQ2 hG2 len (fun _ => 0) 0 (zsk U len 0) 0 0 0 0 0 0 s3 t1 0 (j + 3) (j + 3) (by omega) (by omega) (by omega) (Nat.zero_le _) hD2 tr
    have eC2 : f21 (j + 3) x s = yb0 (cLp (j + 3) (j + 3) (nI 0) s3) fun u => f21_37 (j + 3) (j + 1) 3 u := by
      rw [eC]
      show f21_37 (j + 3) (j + 2) 2 a = _
      rw [c_37b a10, hc2.1]; rfl
    have eM2 : f163 (j + 3) t = yb0 (f203 (j + 3) b) fun u => f163_117 (j + 3) y u := by
      rw [eM]
      exact m_106s hD.1.1.2.1.2.2
    have b9' : b.1 1132 9 = 0 := hD.1.1.2.1.2.2
    have gb : GFm y t b := hD.1.1.2.1.1.1
    have byt : b.2.2 1132 12 = some y := by rw [gb.2.2.1]; exact hyt
    obtain ⟨B1, B2, B3, B4, B5, B6⟩ := DR_b hD
    have hN := DT_N hD.2.2.1
    have h34 := hD.1.1.2.2.2.2.2.2.1.1
    have h0 := hD.2.2.1.2.2.1.1
    have x34 : nx (b.1 y 34) = us := by rw [h34, nx_nI (by omega)]
    rcases L2 with ⟨a2, b2', e3, e4, hb, cnt2, N2, q2, nd2, cd2, us2, es2, na2, nb2, hD3, hk3⟩ | ⟨a2, b2', f, z, e3, e4, hF, hMf⟩ | ⟨a2, z, e3, hZ, hF⟩
    · subst hb
      have us_e : us2 = us := (nI_eq (by have := (DR_b hD3).1; omega) (by omega)).mp (hD3.1.1.2.2.2.2.2.2.1.1.symm.trans h34)
      subst us_e
      have hv : ∀ u, u < us2 → iO b2' y u := (hD3.1.1.2.2.2.2.2.2.2 rfl).2.1
      rw [m_203 hn hy byt h34 (by omega) (by omega) h0 b9' hv] at eM2
      have ga2 : GFc x s1 a2 := GFc_tr ga hD3.1.1.1.1.1
      have a210 : a2.1 1004 10 = 0 := hD3.1.1.1.2.2
      rw [e3] at eC2
      have eC3 : f21 (j + 3) x s = f21_178 (j + 3) a2 := eC2.trans c_37c
      rcases hD3.1.2.2.2.2.2.1.2 rfl with ⟨i12, hfit⟩ | ⟨i12, u, hu, ⟨hz, hp⟩, hnf, hbf⟩
      · rw [m_fitp hn hy h34 (by omega) b9' hfit] at eM2
        have hcc : ∀ c, c < 9 → Gzp y b2' cnt 6 c = cnt2 c := fun c hc => by
          have h1 := (hD.2.2.1.1 c hc).2
          have h2 := (hD3.2.2.1.1 c hc).2
          exact (nI_eq (show cnt c < 2 ^ 31 by omega) (by omega)).mp (h1.1.symm.trans h2.1)
        obtain ⟨G2, -, hX⟩ := text_end hS2 hQ2 hG2 hD3 hcc i12
        refine ⟨s1, a2, ⟨b2, b3, b4⟩, ga2, Or.inr ⟨G2, tzMp b2' y, by rw [eC3, c_178a a210 i12], eM2, ?_, ?_, hX⟩⟩
        · rw [tzM_1 (by omega)]; exact b9'
        · exact GFm_z gb rfl (fun a p1 p2 p3 => tzM_1 ⟨p2, p3⟩) (fun k _ _ => by rw [tzM_1 (by omega)]) hy
      · obtain ⟨z, ez⟩ := nI_xp (b2'.1 (y + 30) u)
        obtain ⟨t2, w1, w2, w3, w4, w5, w6⟩ := m_unfit hn hy h34 (by omega) b9' hu hbf hp hnf ez
        rw [w1] at eM2
        refine ⟨s1, sI (sI a2 1004 10 7) 1004 11 (a2.1 1004 12), ⟨b2, b3, b4⟩, GFc_I (by omega) (GFc_I (by omega) ga2), Or.inl ⟨7, z, t2, by omega, by rw [eC3, c_178b a210 i12]; rfl, by rw [hIe, hz, ez], ?_, GFm_z gb w4 w5 w6 hy⟩⟩
        exact eM2.trans (m_117f (n := j + 3) w2 w3 (by omega))
    · exfalso
      rw [e2] at e4
      obtain rfl := Option.some.inj e4
      have := hMf.2.1
      rw [b9'] at this
      have := (nIe (u := 0) (k := f) (by omega) (by have := hMf.2.2.2; omega)).mp this
      have := hMf.2.2.2
      omega
    · obtain ⟨-, u0, u1, u2, ⟨u3, u4⟩, u5⟩ := hZ
      rw [x34] at u1
      obtain ⟨t2, w1, w2, w3, w4, w5, w6⟩ := m_203b hn hy byt h34 (by omega) (by omega) h0 b9' u1 u2 u3 u4 u5
      rw [w1] at eM2
      rw [e3] at eC2
      have f10 : a2.1 1004 10 = nI 6 := hF.2.2.1
      refine ⟨s1, a2, ⟨b2, b3, b4⟩, GFc_tr ga hF.1.1, Or.inl ⟨6, z, t2, by omega, ?_, hF.2.2.2, eM2.trans (m_117f (n := j + 3) w2 w3 (by omega)), GFm_z gb w4 w5 w6 hy⟩⟩
      rw [eC2]
      show f21_37 (j + 3) (j + 1) 3 a2 = _
      rw [c_37f (by rw [f10]; decide), f10]
  · rw [e1] at eC
    rw [e2] at eM
    have hf := hMf.2.2.2
    have f10 : a.1 1004 10 = nI f := hF.2.2.1
    refine ⟨s1, a, ⟨b2, b3, b4⟩, hF.1.1, Or.inl ⟨f, z, b, hf, ?_, hF.2.2.2, eM.trans (m_106f hMf.2), hMf.1.1⟩⟩
    rw [eC]
    show f21_37 (j + 3) (j + 2) 2 a = _
    rw [c_37f (fun e => ?_), f10]
    rw [f10] at e
    have := (nIe (u := f) (k := 0) (by omega) (by omega)).mp e
    omega
  · exact absurd hZ.1 (by decide)
end ZSB
