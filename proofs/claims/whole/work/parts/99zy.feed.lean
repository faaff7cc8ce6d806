/-! feed and find -/
section ZDF
variable {G W W2 : Nat → Nat → Nat} {F F2 : Nat → Nat → Nat → Nat} {B C B2 C2 x y n i j o k v p D r N P g z q c : Nat} {s t s2 t2 s' t' : zσ} {a b : Nat → Nat} {Q : Int64} {X3 : Int32}
theorem byt (raw : Int32) : zTp (vp_nar .byte raw.toInt8.toInt32) (raw &&& 255) := by
  refine ⟨raw.toBitVec.toNat % 256, by omega, ?_, ?_⟩
  · show raw.toInt8.toInt32.toInt8.toInt32 = (nI (raw.toBitVec.toNat % 256)).toInt8.toInt32
    rw [Int8.toInt8_toInt32 raw.toInt8]
    congr 1
    apply Int8.toBitVec_inj.mp
    rw [Int32.toBitVec_toInt8, Int32.toBitVec_toInt8]
    apply BitVec.eq_of_toNat_eq
    rw [BitVec.signExtend_eq_setWidth_of_le _ (by decide), BitVec.signExtend_eq_setWidth_of_le _ (by decide), BitVec.toNat_setWidth, BitVec.toNat_setWidth]
    show _ = (BitVec.ofNat 32 (raw.toBitVec.toNat % 256)).toNat % 2 ^ 8
    rw [BitVec.toNat_ofNat]
    omega
  · apply Int32.toBitVec_inj.mp
    rw [Int32.toBitVec_and]
    apply BitVec.eq_of_toNat_eq
    show (raw.toBitVec &&& 255#32).toNat = (BitVec.ofNat 32 (raw.toBitVec.toNat % 256)).toNat
    rw [BitVec.toNat_and, BitVec.toNat_ofNat]
    have : raw.toBitVec.toNat &&& (2 ^ 8 - 1) = raw.toBitVec.toNat % 2 ^ 8 := Nat.and_two_pow_sub_one_eq_mod _ _
    rw [show 255 % 2 ^ 32 = 2 ^ 8 - 1 by decide, this, BitVec.toNat_ofNat]
    omega
theorem m1_lt {m : Nat} (hm : m < 100) : (nI m - 1 < 0 ↔ m = 0) ∧ (nI (m + 1) - 1 + (-1) = nI m - 1) := by
  constructor
  · constructor
    · intro h
      rcases Nat.eq_zero_or_pos m with q | q
      · exact q
      · rw [show nI m - 1 = nI (m - 1) from nsubL (k := 1) (by omega)] at h
        have := (nltN (b := 0) (by omega) (by decide)).mp h
        omega
    · intro h
      rw [h]
      decide
  · rw [show nI (m + 1) - 1 = nI m from nsubL (k := 1) (by omega)]
    exact (Int32.sub_eq_add_neg _ _).symm
theorem feed_L (hX : ¬ X3 = 0) : ∀ m L fu fu2 (s t : zσ), m ≤ 8 → s.1 1001 2 = nI L → t.1 1132 1 = nI L → L + m ≤ 4000 → (∀ k, k < L → zTp (s.1 1002 k) (t.1 1133 k)) → m < fu → m < fu2 → ∃ s2 t2, f19_50 n fu Q (nI m - 1) s = some (nI (L + m), s2) ∧ f162_33 n fu2 Q X3 (nI m - 1) t = some (nI (L + m), t2) ∧ s2.2 = s.2 ∧ t2.2 = t.2 ∧ (∀ a, a ≠ 1001 → a ≠ 1002 → s2.1 a = s.1 a) ∧ (∀ a, a ≠ 1132 → a ≠ 1133 → t2.1 a = t.1 a) ∧ (∀ k, k ≠ 1 → t2.1 1132 k = t.1 1132 k) ∧ s2.1 1001 2 = nI (L + m) ∧ t2.1 1132 1 = nI (L + m) ∧ (∀ k, k < L + m → zTp (s2.1 1002 k) (t2.1 1133 k)) := by
  intro m
  induction m with
  | zero =>
    intro L fu fu2 s t hm h1 h2 hL hT hf hf2
    obtain ⟨fu, rfl⟩ : ∃ f0, fu = f0 + 1 := ⟨fu - 1, by omega⟩
    obtain ⟨fu2, rfl⟩ : ∃ f0, fu2 = f0 + 1 := ⟨fu2 - 1, by omega⟩
    have l0 : nI 0 - 1 < 0 := (m1_lt (m := 0) (by decide)).1.mpr rfl
    refine ⟨s, sI t 1132 1 (nI L), ?_, ?_, rfl, rfl, fun _ _ _ => rfl, fun a q1 q2 => hIo q1, fun k q => hIk q, h1, hIe, fun k hk => ?_⟩
    · rw [f19_50, if_pos l0, h1]
      rfl
    · rw [f162_33, if_pos l0, if_neg hX]
      unfold f162_88
      rw [zlet, h2, hIe]
      rfl
    · rw [hIo (by decide)]
      exact hT k hk
  | succ m ih =>
    intro L fu fu2 s t hm h1 h2 hL hT hf hf2
    obtain ⟨fu, rfl⟩ : ∃ f0, fu = f0 + 1 := ⟨fu - 1, by omega⟩
    obtain ⟨fu2, rfl⟩ : ∃ f0, fu2 = f0 + 1 := ⟨fu2 - 1, by omega⟩
    have l0 : ¬ nI (m + 1) - 1 < 0 := fun w => by have := (m1_lt (m := m + 1) (by omega)).1.mp w; omega
    have zL : zin? (nI L) 4000 = true := (zinN (by omega)).mpr (by omega)
    have nL := nxN (show L < 2 ^ 31 by omega)
    have em := (m1_lt (m := m) (by omega)).2
    generalize hr : (((Q).toUInt64 >>> (((8 : Int32) * (nI (m + 1) - 1)).toInt64.toUInt64 &&& Int64.toUInt64 63)).toInt64).toInt32 = raw
    obtain ⟨s2, t2, a1, a2, a3, a4, a5, a6, a7, a8, a9, a10⟩ := ih (L + 1) fu fu2 (sI (sI s 1001 2 (nI (L + 1))) 1002 L (vp_nar .byte raw.toInt8.toInt32)) (sI (sI t 1133 L (raw &&& 255)) 1132 1 (nI (L + 1))) (by omega) (by rw [hIo (by decide), hIe]) hIe (by omega) (fun k hk => by
      rw [hIo (show (1133 : Nat) ≠ 1132 by decide)]
      by_cases e : k = L
      · subst e
        rw [hIe, hIe]
        exact byt raw
      · rw [hIk e, hIk e, hIo (by decide)]
        exact hT k (by omega)) (by omega) (by omega)
    refine ⟨s2, t2, ?_, ?_, a3, a4, fun a q1 q2 => by rw [a5 a q1 q2, hIo q2, hIo q1], fun a q1 q2 => by rw [a6 a q1 q2, hIo q1, hIo q2], fun k q => by rw [a7 k q, hIk q, hIo (by decide)], by rw [a8, show L + 1 + m = L + (m + 1) by omega], by rw [a9, show L + 1 + m = L + (m + 1) by omega], fun k hk => a10 k (by omega)⟩
    · rw [f19_50, if_neg l0, zlet, h1, if_pos zL, zlet, nI_1, nL, hr, em, a1, show L + 1 + m = L + (m + 1) by omega]
    · rw [f162_33, if_neg l0, h2, if_pos zL, zlet, zlet, nL, hr, hIo (show (1132 : Nat) ≠ 1133 by decide), h2, nI_1, em, a2, show L + 1 + m = L + (m + 1) by omega]
theorem pc_feed (Q : Int64) (q : Int32) : pc c (fun n s => f19 n Q q s) (fun n s => f162 n Q q s) := by
  intro s t h
  by_cases w1 : q < 0
  · exact ⟨0, 0, -2, s, t, by show f19 0 Q q s = _; unfold f19; rw [if_pos w1], by show f162 0 Q q t = _; unfold f162; rw [if_pos w1], Rel_up h (Nat.le_succ _)⟩
  · by_cases w2 : (8 : Int32) < q
    · exact ⟨0, 0, -2, s, t, by show f19 0 Q q s = _; unfold f19; rw [if_neg w1, if_pos w2], by show f162 0 Q q t = _; unfold f162; rw [if_neg w1, if_pos w2], Rel_up h (Nat.le_succ _)⟩
    · obtain ⟨k, hk, rfl⟩ := nI_of w1
      have k8 : k ≤ 8 := by
        rcases Nat.lt_or_ge 8 k with u | u
        · exact absurd ((nltN (a := 8) (by decide) hk).mpr u) w2
        · exact u
      have h' := h
      obtain ⟨G, x, y, C, -, ⟨-, -, -, p, p2, ⟨p3, p4, p5, p6⟩, -⟩, -⟩ := h
      have l40 : (4000 : Int32) < nI (G 23 0) + nI k ↔ 4000 < G 23 0 + k := by
        rw [naddN]
        exact nltN (a := 4000) (by decide) (by omega)
      by_cases k0 : k = 0
      · have e0 : nI k = 0 := by rw [k0]; rfl
        refine ⟨1, 1, 0, sI s 1001 2 0, sI t 1132 1 0, ?_, ?_, Rel_up (Rel_out (h' := fun i => if i = 0 then 0 else G 23 i) h' rfl (fun a h1 h2 h3 => hIo h2) (by rw [hIo (by decide)]) rfl (fun a h1 h2 => hIo h1) (fun k h1 h2 h3 => hIk h1) ⟨by rw [hIo (by decide)]; exact p.1, by rw [hIk (by decide)]; exact p.2⟩ ⟨by rw [hIo (by decide)]; exact p2.1, by rw [hIk (by decide)]; exact p2.2.1, p2.2.2⟩ ⟨hIe, hIe, Nat.zero_le _, fun k hk => absurd hk (Nat.not_lt_zero k)⟩) (Nat.le_succ _)⟩
        · show f19 1 Q (nI k) s = _
          unfold f19
          rw [if_neg w1, if_neg w2, if_pos e0, zlet]
        · show f162 1 Q (nI k) t = _
          unfold f162
          rw [if_neg w1, if_neg w2, p4, if_neg (fun u => by have := l40.mp u; omega), zlet, f162_33, if_pos (by rw [k0]; decide), if_pos e0]
          unfold f162_88
          rw [zlet, hIe]
      · have e0 : ¬ nI k = 0 := fun e => k0 ((neq0 hk).mp e)
        by_cases w3 : 4000 < G 23 0 + k
        · refine ⟨0, 0, -4, s, t, ?_, ?_, Rel_up h' (Nat.le_succ _)⟩
          · show f19 0 Q (nI k) s = _
            unfold f19
            rw [if_neg w1, if_neg w2, if_neg e0, p3, if_pos (l40.mpr w3)]
          · show f162 0 Q (nI k) t = _
            unfold f162
            rw [if_neg w1, if_neg w2, p4, if_pos (l40.mpr w3)]
        · obtain ⟨s2, t2, a1, a2, a3, a4, a5, a6, a7, a8, a9, a10⟩ := feed_L (n := 20) (Q := Q) (X3 := nI k) e0 k (G 23 0) 20 20 s t k8 p3 p4 (by omega) p6 (by omega) (by omega)
          refine ⟨20, 20, nI (G 23 0 + k), s2, t2, ?_, ?_, Rel_up (Rel_out (h' := fun i => if i = 0 then G 23 0 + k else G 23 i) h' a3 (fun a h1 h2 h3 => a5 a h2 h3) (by rw [a5 1000 (by decide) (by decide)]) a4 a6 (fun k h1 h2 h3 => a7 k h1) ⟨by rw [a5 1000 (by decide) (by decide)]; exact p.1, by rw [a7 2 (by decide)]; exact p.2⟩ ⟨by rw [a5 1000 (by decide) (by decide)]; exact p2.1, by rw [a7 18 (by decide)]; exact p2.2.1, p2.2.2⟩ ⟨a8, a9, by show G 23 0 + k ≤ 4000; omega, a10⟩) (Nat.le_succ _)⟩
          · show f19 20 Q (nI k) s = _
            unfold f19
            rw [if_neg w1, if_neg w2, if_neg e0, p3, if_neg (fun u => w3 (l40.mp u)), zlet, a1]
          · show f162 20 Q (nI k) t = _
            unfold f162
            rw [if_neg w1, if_neg w2, p4, if_neg (fun u => w3 (l40.mp u)), zlet, a2]
theorem zrk_9 : ∀ c : Fin 9, zrk (1062 + c.1) = true ∧ zrk (1098 + c.1) = true := by decide
theorem c_find (hx : x = 1060 ∨ x = 1096) (hc : c < 9) (hc8 : N ≤ 8) (hN : s.1 (x + 11) c = nI N) (hr : s.2.2 (x + 1) c = some (x + 2 + c)) : ∀ m i fu, i + m = N → m < fu → (∃ j, i ≤ j ∧ j < N ∧ s.2.1 (x + 2 + c) j = Q ∧ f36_3 n fu x (nI c) Q (nI i) s = some (nI j, s)) ∨ ((∀ j, i ≤ j → j < N → ¬ s.2.1 (x + 2 + c) j = Q) ∧ f36_3 n fu x (nI c) Q (nI i) s = some (-1, s)) := by
  have z9 : zin? (nI c) 9 = true := (zinN (by omega)).mpr hc
  have nc := nxN (show c < 2 ^ 31 by omega)
  have rk : zrk (x + 2 + c) = true := by
    rcases hx with e | e
    · rw [e]; exact (zrk_9 ⟨c, hc⟩).1
    · rw [e]; exact (zrk_9 ⟨c, hc⟩).2
  intro m
  induction m with
  | zero =>
    intro i fu hi hf
    obtain ⟨fu, rfl⟩ : ∃ f0, fu = f0 + 1 := ⟨fu - 1, by omega⟩
    refine Or.inr ⟨fun j j1 j2 => by omega, ?_⟩
    rw [f36_3, if_pos z9, nc, hN, show i = N by omega, if_neg Int32.lt_irrefl]
  | succ m ih =>
    intro i fu hi hf
    obtain ⟨fu, rfl⟩ : ∃ f0, fu = f0 + 1 := ⟨fu - 1, by omega⟩
    have z8 : zin? (nI i) 8 = true := (zinN (by omega)).mpr (by omega)
    have e0 : f36_3 n (fu + 1) x (nI c) Q (nI i) s = (if s.2.1 (x + 2 + c) i = Q then some (nI i, s) else f36_3 n fu x (nI c) Q (nI (i + 1)) s) := by
      rw [f36_3, if_pos z9, nc, hN, if_pos ((nltN (by omega) (by omega)).mpr (by omega)), if_pos z9, hr]
      show (if zrk (x + 2 + c) = true then _ else _) = _
      rw [if_pos rk, if_pos z8, nxN (show i < 2 ^ 31 by omega), naddL]
    rw [e0]
    by_cases w : s.2.1 (x + 2 + c) i = Q
    · rw [if_pos w]
      exact Or.inl ⟨i, Nat.le_refl _, by omega, w, rfl⟩
    · rw [if_neg w]
      rcases ih (i + 1) fu (by omega) (by omega) with ⟨j, j1, j2, j3, j4⟩ | ⟨j1, j2⟩
      · exact Or.inl ⟨j, by omega, j2, j3, j4⟩
      · refine Or.inr ⟨fun j k1 k2 => ?_, j2⟩
        by_cases e : j = i
        · rw [e]; exact w
        · exact j1 j (by omega) k2
theorem m_find {S : Int32} (hy : y = 1134 ∨ y = 1170) (r11 : t.2.2 1132 11 = some y) (k13 : ¬ t.1 1132 13 = 0) (hN : N ≤ 60) (e0 : t.1 y 0 = nI N) : ∀ m i fu, i + m = N → m < fu → (∃ j, i ≤ j ∧ j < N ∧ t.2.1 (y + 1) j = Q ∧ t.1 (y + 2) j = S ∧ f206_3 n fu S Q (nI i) t = some (t.1 (y + 3) j, t)) ∨ ((∀ j, i ≤ j → j < N → ¬ (t.2.1 (y + 1) j = Q ∧ t.1 (y + 2) j = S)) ∧ f206_3 n fu S Q (nI i) t = some (-1, t)) := by
  have k12 := gck12 hy
  intro m
  induction m with
  | zero =>
    intro i fu hi hf
    obtain ⟨fu, rfl⟩ : ∃ f0, fu = f0 + 1 := ⟨fu - 1, by omega⟩
    refine Or.inr ⟨fun j j1 j2 => by omega, ?_⟩
    rw [f206_3, if_neg k13, r11, grd k12, e0, show i = N by omega, if_neg Int32.lt_irrefl]
  | succ m ih =>
    intro i fu hi hf
    obtain ⟨fu, rfl⟩ : ∃ f0, fu = f0 + 1 := ⟨fu - 1, by omega⟩
    have z60 : zin? (nI i) 60 = true := (zinN (by omega)).mpr (by omega)
    have e1 : f206_3 n (fu + 1) S Q (nI i) t = (if t.2.1 (y + 1) i = Q then (if t.1 (y + 2) i = S then some (t.1 (y + 3) i, t) else f206_3 n fu S Q (nI (i + 1)) t) else f206_3 n fu S Q (nI (i + 1)) t) := by
      rw [f206_3, if_neg k13, r11, grd k12, e0, if_pos ((nltN (by omega) (by omega)).mpr (by omega)), grd k12, if_pos z60, nxN (show i < 2 ^ 31 by omega), grd k12, if_pos z60, grd k12, if_pos z60]
      unfold f206_62
      rw [naddL]
    rw [e1]
    by_cases w : t.2.1 (y + 1) i = Q ∧ t.1 (y + 2) i = S
    · rw [if_pos w.1, if_pos w.2]
      exact Or.inl ⟨i, Nat.le_refl _, by omega, w.1, w.2, rfl⟩
    · have go : (if t.2.1 (y + 1) i = Q then (if t.1 (y + 2) i = S then some (t.1 (y + 3) i, t) else f206_3 n fu S Q (nI (i + 1)) t) else f206_3 n fu S Q (nI (i + 1)) t) = f206_3 n fu S Q (nI (i + 1)) t := by
        by_cases u : t.2.1 (y + 1) i = Q
        · rw [if_pos u, if_neg (fun v => w ⟨u, v⟩)]
        · rw [if_neg u]
      rw [go]
      rcases ih (i + 1) fu (by omega) (by omega) with ⟨j, j1, j2, j3, j4, j5⟩ | ⟨j1, j2⟩
      · exact Or.inl ⟨j, by omega, j2, j3, j4, j5⟩
      · refine Or.inr ⟨fun j k1 k2 => ?_, j2⟩
        by_cases e : j = i
        · rw [e]; exact w
        · exact j1 j (by omega) k2
theorem pc_find (q : Int32) (Q : Int64) : pc c (fun n s => f71 n q Q s) (fun n s => f206 n q Q s) := by
  intro s t h
  obtain ⟨G, x, y, hx, hy, r3, r11, ⟨-, zc, -⟩, hT⟩ := Rel_tx h
  have k9 := (gck9 hx).1
  refine ⟨100, 100, ?_⟩
  have fin : ∀ v, f71 100 q Q s = some (v, s) → f206 100 q Q t = some (v, t) → ∃ v s2 t2, f71 100 q Q s = some (v, s2) ∧ f206 100 q Q t = some (v, t2) ∧ Rel (c + 1) s2 t2 := fun v e1 e2 => ⟨v, s, t, e1, e2, Rel_up h (Nat.le_succ _)⟩
  have rr : ∀ k, k < 9 → s.2.2 (x + 1) k = some (x + 2 + k) := by
    intro k hk
    rcases hx with e | e
    · rw [e]; exact (zc k hk).2.1
    · rw [e]; exact (zc k hk).2.2
  rcases hT with ⟨-, q2, ⟨e1, -, -⟩⟩ | ⟨q2, hX⟩
  · refine fin (-1) ?_ (by show f206_3 100 100 q Q 0 t = _; rw [f206_3, if_pos q2])
    unfold f71 f71_10
    by_cases w1 : q < 0
    · rw [if_pos w1]
    · by_cases w2 : q < 9
      · obtain ⟨k, hk, rfl⟩ := nI_of w1
        have k9' : k < 9 := (nltN (b := 9) hk (by decide)).mp w2
        rw [if_neg w1, if_pos w2, r3, grd k9]
        rcases c_find (n := 100) (Q := Q) (N := 0) hx k9' (by omega) (e1 k k9') (rr k k9') 0 0 100 rfl (by omega) with ⟨j, j1, j2, -⟩ | ⟨-, j2⟩
        · omega
        · have j2' : f36 100 x (nI k) Q s = some (-1, s) := j2
          rw [j2', gy1]
      · rw [if_neg w1, if_neg w2]
  · obtain ⟨⟨n1, -, -, N, b1, b2, b3, b4, b5⟩, -⟩ := hX
    have q2' : ¬ t.1 1132 13 = 0 := by rw [q2]; decide
    have eM := m_find (n := 100) (S := q) (Q := Q) hy r11 q2' b1 b2 N 0 100 (Nat.zero_add _) (by omega)
    have no : (∀ k, k < 9 → ¬ q = nI k) → f206 100 q Q t = some (-1, t) := by
      intro w
      rcases eM with ⟨j, -, j2, -, j4, -⟩ | ⟨-, j2⟩
      · obtain ⟨cc, i, c1, -, c3, -⟩ := b3 j j2
        exact absurd (j4.symm.trans c3) (w cc c1)
      · exact j2
    by_cases w1 : q < 0
    · refine fin (-1) (by unfold f71 f71_10; rw [if_pos w1]) (no (fun k hk e => ?_))
      rw [e] at w1
      have := (nltN (b := 0) (by omega) (by decide)).mp w1
      omega
    · by_cases w2 : q < 9
      · obtain ⟨k, hk, rfl⟩ := nI_of w1
        have k9' : k < 9 := (nltN (b := 9) hk (by decide)).mp w2
        obtain ⟨g1, g2, g3⟩ := n1 k k9'
        have eC : ∀ v, f36 100 x (nI k) Q s = some (v, s) → f71 100 (nI k) Q s = some (v, s) := by
          intro v e
          unfold f71
          rw [if_neg w1, if_pos w2, r3, grd k9, e, gy1]
        rcases c_find (n := 100) (Q := Q) hx k9' g3 g1 (rr k k9') (G 6 k) 0 100 (Nat.zero_add _) (by omega) with ⟨j, -, j2, j3, j4⟩ | ⟨j1, j2⟩
        · obtain ⟨kk, c1, c2, c3, c4⟩ := b4 k j k9' j2
          refine fin (nI j) (eC _ j4) ?_
          rcases eM with ⟨l, -, l2, l3, l4, l5⟩ | ⟨l1, -⟩
          · have : l = kk := b5 l kk l2 c1 (by rw [l3, ← c4, j3])
            rw [this, c3] at l5
            exact l5
          · exact absurd ⟨by rw [← c4, j3], c2⟩ (l1 kk (Nat.zero_le _) c1)
        · refine fin (-1) (eC _ j2) ?_
          rcases eM with ⟨l, -, l2, l3, l4, -⟩ | ⟨-, l2⟩
          · obtain ⟨cc, i, c1, c2, c3, c4, c5⟩ := b3 l l2
            have ec : cc = k := (neqN (by omega) (by omega)).mp (c3.symm.trans l4)
            subst ec
            exact absurd (by rw [c5, l3]) (j1 i (Nat.zero_le _) c2)
          · exact l2
      · refine fin (-1) (by unfold f71 f71_10; rw [if_neg w1, if_neg w2]) (no (fun k hk e => ?_))
        rw [e] at w2
        exact w2 ((nltN (b := 9) (by omega) (by decide)).mpr hk)
end ZDF
