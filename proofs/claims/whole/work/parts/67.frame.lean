/-! what a step leaves alone -/
section ZFR
variable {G W W2 : Nat → Nat → Nat} {F F2 : Nat → Nat → Nat → Nat} {B x y n i j : Nat} {s s2 s3 t t2 t3 : zσ}
theorem cR_fr (hs : ∀ k, s2.1 (x + k) = s.1 (x + k)) : ∀ (l : List Nat) (v : Int32), cR x s v l → cR x s2 v l
  | [], _, h => h
  | r :: l, v, h => ⟨h.1, h.2.1, by rw [hs]; exact cR_fr hs l _ h.2.2⟩
set_option maxHeartbeats 1000000 in
theorem TX_fr (hs : ∀ k, s2.1 (x + k) = s.1 (x + k)) (hsj : ∀ k, s2.2.1 (x + 2 + k) = s.2.1 (x + 2 + k)) (ht : ∀ k, k ≤ 35 → t2.1 (y + k) = t.1 (y + k)) (htj : t2.2.1 (y + 1) = t.2.1 (y + 1)) (h : TX G x y s t) : TX G x y s2 t2 := by
  have e0 : t2.1 y = t.1 y := ht 0 (by decide)
  have e4 := ht 4 (by decide)
  have e2 := ht 2 (by decide)
  have e3 := ht 3 (by decide)
  have e5 := ht 5 (by decide)
  have e6 := ht 6 (by decide)
  have e7 := ht 7 (by decide)
  have e8 := ht 8 (by decide)
  have e9 := ht 9 (by decide)
  have e10 := ht 10 (by decide)
  have e13 := ht 13 (by decide)
  have e14 := ht 14 (by decide)
  have e15 := ht 15 (by decide)
  have e16 := ht 16 (by decide)
  have e17 := ht 17 (by decide)
  have e18 := ht 18 (by decide)
  have e19 := ht 19 (by decide)
  have e20 := ht 20 (by decide)
  have e21 := ht 21 (by decide)
  have e22 := ht 22 (by decide)
  have e23 := ht 23 (by decide)
  have e24 := ht 24 (by decide)
  have e25 := ht 25 (by decide)
  have e26 := ht 26 (by decide)
  have e27 := ht 27 (by decide)
  have e28 := ht 28 (by decide)
  have e33 := ht 33 (by decide)
  have e34 := ht 34 (by decide)
  obtain ⟨h1, h2, h3, h4⟩ := h
  refine ⟨?_, ?_, ?_, ?_⟩
  · unfold tN at h1 ⊢
    simp only [hs, hsj, e0, e4, e2, e3, htj]
    exact h1
  · unfold tD at h2 ⊢
    simp only [hs, e5, e6, e7, e8, e9, e10]
    exact h2
  · intro b hb
    have h5 := h3 b hb
    simp only [hs, e13, e14]
    obtain ⟨a1, a2, a3, a4, a5, a6, a7, a8, l, a9, a10⟩ := h5
    exact ⟨a1, a2, a3, a4, a5, a6, a7, a8, l, cR_fr hs l _ a9, a10⟩
  · intro r hr
    have h5 := h4 r hr
    unfold tO tL tE tX tC uA uV at h5 ⊢
    simp only [hs, e15, e16, e17, e18, e19, e20, e21, e22, e23, e24, e25, e26, e27, e28, e33, e34]
    exact h5
/-- task j is as it was, for the class; for the reference -/
def sC1 (j : Nat) (s s2 : zσ) : Prop := s2.1 (1036 + 3 * j) = s.1 (1036 + 3 * j) ∧ s2.1 (1036 + 3 * j + 1) = s.1 (1036 + 3 * j + 1) ∧ s2.1 (1036 + 3 * j + 2) = s.1 (1036 + 3 * j + 2)
def sM1 (j : Nat) (t t2 : zσ) : Prop := (∀ a, 1225 ≤ a → a ≤ 1235 → t2.1 a j = t.1 a j) ∧ (∀ a d, 1236 ≤ a → a ≤ 1238 → d < 140 → t2.1 a (140 * j + d) = t.1 a (140 * j + d)) ∧ (∀ k, k < 420 → t2.1 1239 (420 * j + k) = t.1 1239 (420 * j + k))
/-- the ghosts of task j -/
def sG1 (j : Nat) (W W2 : Nat → Nat → Nat) (F F2 : Nat → Nat → Nat → Nat) : Prop := (∀ a d, F2 j a d = F j a d) ∧ (∀ a, a < 4 → W2 a j = W a j) ∧ W 4 0 ≤ W2 4 0 ∧ W 4 1 ≤ W2 4 1
set_option maxHeartbeats 1000000 in
theorem rT_fr (hc : sC1 j s s2) (hm : sM1 j t t2) (hg : sG1 j W W2 F F2) (hx : s2.1 (x + 22) = s.1 (x + 22)) (h : rT G W F x s t j) : rT G W2 F2 x s2 t2 j := by
  obtain ⟨c1, c2, c3⟩ := hc
  obtain ⟨m1, m2, m3⟩ := hm
  obtain ⟨g1, g2, g3, g4⟩ := hg
  have w0 := g2 0 (by decide)
  have w1 := g2 1 (by decide)
  have w2 := g2 2 (by decide)
  have w3 := g2 3 (by decide)
  obtain ⟨ha, hb, hf⟩ := h
  refine ⟨?_, ?_, ?_⟩
  · unfold rTa at ha ⊢
    rw [c1, m1 1230 (by decide) (by decide), m1 1231 (by decide) (by decide), m1 1232 (by decide) (by decide), m1 1233 (by decide) (by decide)]
    exact ha
  · obtain ⟨a, k, b1, b2, b3, b4, b5, b6, b7, b8, b9, b10, b11⟩ := hb
    refine ⟨a, k, b1, by rw [c1]; exact b2, by rw [m1 1225 (by decide) (by decide)]; exact b3, b4, b5, by rw [c1]; exact b6, by rw [m1 1229 (by decide) (by decide)]; exact b7, by rw [m1 1226 (by decide) (by decide)]; exact b8, by rw [c1, m1 1226 (by decide) (by decide)]; exact b9, ?_, ?_⟩
    · rw [c1, m1 1227 (by decide) (by decide), w0, w2]
      intro q
      obtain ⟨q1, q2, q3, q4⟩ := b10 q
      exact ⟨q1, q2, by omega, by omega⟩
    · rw [c1, m1 1228 (by decide) (by decide), w1, w3]
      intro q
      obtain ⟨q1, q2, q3, q4⟩ := b11 q
      exact ⟨q1, q2, by omega, by omega⟩
  · obtain ⟨b1, b2, b3, b4, b5, b6⟩ := hf
    unfold rF1
    simp only [g1]
    refine ⟨by rw [m1 1235 (by decide) (by decide)]; exact b1, b2, by rw [c1]; exact b3, by rw [c1, m1 1234 (by decide) (by decide)]; exact b4, by rw [c1, m1 1234 (by decide) (by decide)]; exact b5, fun d hd => ?_⟩
    obtain ⟨k1, q1, r1⟩ := b6 d hd
    refine ⟨?_, ?_, ?_⟩
    · unfold rK at k1 ⊢
      simp only [g1, m2 1236 d (by decide) (by decide) (by omega), m2 1238 d (by decide) (by decide) (by omega)]
      exact k1
    · unfold rQ at q1 ⊢
      simp only [g1, c2, m2 1237 d (by decide) (by decide) (by omega), hx]
      exact q1
    · unfold rM at r1 ⊢
      simp only [g1, c3]
      intro e jj h3 hjj
      have e2 := m3 (3 * d + jj) (by omega)
      rw [show 420 * j + (3 * d + jj) = 3 * (140 * j + d) + jj by omega] at e2
      rw [e2]
      exact r1 e jj h3 hjj
/-- a step at task i, for the class; for the reference -/
def oC (i : Nat) (s s2 : zσ) : Prop := s2.2 = s.2 ∧ (∀ a, a ≠ 1007 → a ≠ 1010 → a ≠ 1023 → a ≠ 1030 → a ≠ 1032 → a ≠ 1036 + 3 * i → a ≠ 1036 + 3 * i + 1 → a ≠ 1036 + 3 * i + 2 → s2.1 a = s.1 a)
def oM (i : Nat) (t t2 : zσ) : Prop := t2.2.2 = t.2.2 ∧ (∀ a, a ≠ 1245 → t2.2.1 a = t.2.1 a) ∧ (∀ a, a ≤ 1221 → a ≠ 1132 → a ≠ 1207 → t2.1 a = t.1 a) ∧ (∀ a j, 1225 ≤ a → a ≤ 1235 → j ≠ i → t2.1 a j = t.1 a j) ∧ (∀ a j d, 1236 ≤ a → a ≤ 1238 → j ≠ i → d < 140 → t2.1 a (140 * j + d) = t.1 a (140 * j + d)) ∧ (∀ j k, j ≠ i → k < 420 → t2.1 1239 (420 * j + k) = t.1 1239 (420 * j + k)) ∧ (∀ a, 1241 ≤ a → a ≤ 1244 ∨ a = 1247 → t2.1 a = t.1 a) ∧ t2.1 1132 69 = t.1 1132 69
theorem oC_rf : oC i s s := ⟨rfl, fun _ _ _ _ _ _ _ _ _ => rfl⟩
theorem oC_tr (h1 : oC i s s2) (h2 : oC i s2 s3) : oC i s s3 := ⟨h2.1.trans h1.1, fun a b1 b2 b3 b4 b5 b6 b7 b8 => (h2.2 a b1 b2 b3 b4 b5 b6 b7 b8).trans (h1.2 a b1 b2 b3 b4 b5 b6 b7 b8)⟩
theorem oM_rf : oM i t t := ⟨rfl, fun _ _ => rfl, fun _ _ _ _ => rfl, fun _ _ _ _ _ => rfl, fun _ _ _ _ _ _ _ => rfl, fun _ _ _ _ => rfl, fun _ _ _ => rfl, rfl⟩
theorem oM_tr (h1 : oM i t t2) (h2 : oM i t2 t3) : oM i t t3 := ⟨h2.1.trans h1.1, fun a b => (h2.2.1 a b).trans (h1.2.1 a b), fun a b c d => (h2.2.2.1 a b c d).trans (h1.2.2.1 a b c d), fun a j b c d => (h2.2.2.2.1 a j b c d).trans (h1.2.2.2.1 a j b c d), fun a j d b c e f => (h2.2.2.2.2.1 a j d b c e f).trans (h1.2.2.2.2.1 a j d b c e f), fun j k b c => (h2.2.2.2.2.2.1 j k b c).trans (h1.2.2.2.2.2.1 j k b c), fun a b c => (h2.2.2.2.2.2.2.1 a b c).trans (h1.2.2.2.2.2.2.1 a b c), h2.2.2.2.2.2.2.2.trans h1.2.2.2.2.2.2.2⟩
theorem oC_j (hi : i < 8) (hj : j < 8) (hij : j ≠ i) (h : oC i s s2) : sC1 j s s2 := ⟨h.2 _ (by omega) (by omega) (by omega) (by omega) (by omega) (by omega) (by omega) (by omega), h.2 _ (by omega) (by omega) (by omega) (by omega) (by omega) (by omega) (by omega) (by omega), h.2 _ (by omega) (by omega) (by omega) (by omega) (by omega) (by omega) (by omega) (by omega)⟩
theorem oM_j (hij : j ≠ i) (h : oM i t t2) : sM1 j t t2 := ⟨fun a b c => h.2.2.2.1 a j b c hij, fun a d b c e => h.2.2.2.2.1 a j d b c hij e, fun k b => h.2.2.2.2.2.1 j k hij b⟩
theorem TX_o (hi : i < 8) (hx : x = 1060 ∨ x = 1096) (hy : y = 1134 ∨ y = 1170) (h1 : oC i s s2) (h2 : oM i t t2) (h : TX G x y s t) : TX G x y s2 t2 :=
  TX_fr (fun k => h1.2 _ (by omega) (by omega) (by omega) (by omega) (by omega) (by omega) (by omega) (by omega)) (fun k => by rw [h1.1]) (fun k hk => h2.2.2.1 _ (by omega) (by omega) (by omega)) (h2.2.1 _ (by omega)) h
theorem rZ_fr (c1 : ∀ a, a = 1000 ∨ a = 1061 ∨ a = 1097 → s2.2.2 a = s.2.2 a) (c2 : ∀ a, 1000 ≤ a → a ≤ 1002 → s2.1 a = s.1 a) (c3 : s2.2.1 1003 = s.2.1 1003) (m1 : t2.2.2 1132 = t.2.2 1132) (m2 : ∀ a, 1133 ≤ a → a ≤ 1206 → t2.1 a = t.1 a) (hy : y = 1134 ∨ y = 1170) (h : rZ G x y s t) : rZ G x y s2 t2 := by
  unfold rZ zCn at h ⊢
  rw [c1 1000 (by decide), c1 1061 (by decide), c1 1097 (by decide), c2 1000 (by decide) (by decide), c2 1001 (by decide) (by decide), c2 1002 (by decide) (by decide), c3, m1, m2 1133 (by decide) (by decide), m2 1206 (by decide) (by decide), m2 (2304 - y + 6) (by omega) (by omega)]
  exact h
/-- the run without task i, behind a step at task i -/
theorem RUNx_go {e B2 C C2 : Nat} (hi : i < 8) (he : e = i ∨ e = 8) (h : RUNx e G F W B C x y s t) (h1 : oC i s s2) (h2 : oM i t t2) (hg : ∀ j, j < 8 → j ≠ i → sG1 j W W2 F F2) (hA : rA G s2 t2) (hB : rB B2 s2 t2) (hV : rV G s2 t2) (hH : rH G s2 t2) (hC : rC W2 C2 s2 t2) (hE : rE C2 s2 t2) : RUNx i G F2 W2 B2 C2 x y s2 t2 := by
  obtain ⟨⟨r1, r2, ⟨r3, rz⟩, r4, r5, r6, r7⟩, hX, ⟨-, -, -, d4, d5, d6, d7, d8, d9, -, -⟩, -, hT, hU⟩ := h
  have c : ∀ a, 1011 ≤ a → a < 1036 → a ≠ 1023 → a ≠ 1030 → a ≠ 1032 → s2.1 a = s.1 a := fun a b1 b2 b3 b4 b5 => h1.2 a (by omega) (by omega) b3 b4 b5 (by omega) (by omega) (by omega)
  have m : ∀ a, 1208 ≤ a → a ≤ 1221 → t2.1 a = t.1 a := fun a b1 b2 => h2.2.2.1 a b2 (by omega) (by omega)
  refine ⟨⟨r1, r2, ⟨by rw [h1.1]; exact r3, rZ_fr (fun _ _ => by rw [h1.1]) (fun a q1 q2 => h1.2 a (by omega) (by omega) (by omega) (by omega) (by omega) (by omega) (by omega) (by omega)) (by rw [h1.1]) (by rw [h2.1]) (fun a q1 q2 => h2.2.2.1 a (by omega) (by omega) (by omega)) r2 rz⟩, by rw [h1.1]; exact r4, by rw [h1.1]; exact r5, by rw [h2.1]; exact r6, by rw [h1.1]; exact r7⟩, TX_o hi r1 r2 h1 h2 hX, ⟨hA, hB, hV, ?_, ?_, ?_, ?_, ?_, ?_, hH, hC⟩, hE, fun j hj hji => ?_, fun j k hj hk hji hki => ?_⟩
  · unfold rW at d4 ⊢
    rw [c 1011 (by decide) (by decide) (by decide) (by decide) (by decide), c 1012 (by decide) (by decide) (by decide) (by decide) (by decide), c 1013 (by decide) (by decide) (by decide) (by decide) (by decide), m 1208 (by decide) (by decide), m 1209 (by decide) (by decide), m 1210 (by decide) (by decide)]
    exact d4
  · unfold rS at d5 ⊢
    rw [c 1015 (by decide) (by decide) (by decide) (by decide) (by decide), m 1211 (by decide) (by decide)]
    exact d5
  · unfold rL at d6 ⊢
    rw [c 1016 (by decide) (by decide) (by decide) (by decide) (by decide), c 1017 (by decide) (by decide) (by decide) (by decide) (by decide), m 1212 (by decide) (by decide), m 1213 (by decide) (by decide)]
    exact d6
  · unfold rI at d7 ⊢
    rw [c 1018 (by decide) (by decide) (by decide) (by decide) (by decide), c 1019 (by decide) (by decide) (by decide) (by decide) (by decide), m 1217 (by decide) (by decide), m 1218 (by decide) (by decide)]
    exact d7
  · unfold rO at d8 ⊢
    rw [c 1020 (by decide) (by decide) (by decide) (by decide) (by decide), c 1021 (by decide) (by decide) (by decide) (by decide) (by decide), m 1219 (by decide) (by decide), m 1220 (by decide) (by decide)]
    exact d8
  · unfold rP at d9 ⊢
    rw [c 1027 (by decide) (by decide) (by decide) (by decide) (by decide), c 1028 (by decide) (by decide) (by decide) (by decide) (by decide), c 1029 (by decide) (by decide) (by decide) (by decide) (by decide), m 1214 (by decide) (by decide), m 1215 (by decide) (by decide), m 1216 (by decide) (by decide)]
    exact d9
  · exact rT_fr (oC_j hi hj hji h1) (oM_j hji h2) (hg j hj hji) (h1.2 _ (by omega) (by omega) (by omega) (by omega) (by omega) (by omega) (by omega) (by omega)) (hT j hj (by omega))
  · have u := hU j k hj hk (by omega) (by omega)
    unfold rU2 at u ⊢
    rw [(oC_j hi hj hji h1).1, (oC_j hi hk hki h1).1, (hg j hj hji).2.1 0 (by decide), (hg j hj hji).2.1 1 (by decide), (hg j hj hji).2.1 2 (by decide), (hg j hj hji).2.1 3 (by decide), (hg k hk hki).2.1 0 (by decide), (hg k hk hki).2.1 1 (by decide), (hg k hk hki).2.1 2 (by decide), (hg k hk hki).2.1 3 (by decide)]
    exact u
/-- and with it again -/
theorem RUN_of {C : Nat} (h : RUNx i G F W B C x y s t) (ht : rT G W F x s t i) (hu : ∀ j, j < 8 → j ≠ i → rU2 W s i j ∧ rU2 W s j i) : RUN G F W B C x y s t := by
  obtain ⟨a1, a2, a3, a4, a5, a6⟩ := h
  refine ⟨a1, a2, a3, a4, fun j hj _ => ?_, fun j k hj hk _ _ => ?_⟩
  · by_cases q : j = i
    · rw [q]; exact ht
    · exact a5 j hj q
  · by_cases q : j = i
    · by_cases q2 : k = i
      · rw [q, q2]; exact fun q => absurd rfl q
      · rw [q]; exact (hu k hk q2).1
    · by_cases q2 : k = i
      · rw [q2]; exact (hu j hj q).2
      · exact a6 j k hj hk q q2
theorem RUN_x {C : Nat} (h : RUN G F W B C x y s t) : RUNx i G F W B C x y s t := ⟨h.1, h.2.1, h.2.2.1, h.2.2.2.1, fun j hj _ => h.2.2.2.2.1 j hj (by omega), fun j k hj hk _ _ => h.2.2.2.2.2 j k hj hk (by omega) (by omega)⟩
end ZFR
