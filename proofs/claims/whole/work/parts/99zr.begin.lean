/-! begin -/
section ZCY
variable {G W W2 : Nat → Nat → Nat} {F F2 : Nat → Nat → Nat → Nat} {B C B2 C2 x y n i j o k v p D r N P g z q : Nat} {s t s2 t2 s' t' : zσ} {a b : Nat → Nat}
/-- a text is there -/
def KB (G : Nat → Nat → Nat) (C x y : Nat) (s t : zσ) : Prop := (x = 1060 ∨ x = 1096) ∧ (y = 1134 ∨ y = 1170) ∧ rZ G x y s t ∧ t.2.2 1132 11 = some y ∧ (∀ i, i < 8 → s.2.2 1008 i = some (1036 + 3 * i) ∧ s.1 (1036 + 3 * i) 0 = nI i) ∧ TX G x y s t ∧ (t.1 1132 13 = 1 ∧ t.1 1132 1 = nI (G 23 0) ∧ t.1 1132 2 = nI (G 23 1) ∧ t.1 1132 18 = nI (G 23 2)) ∧ rE C s t
theorem KB_run (h : RUN G F W B C x y s t) : KB G C x y s t := by
  obtain ⟨⟨r1, r2, ⟨r3, rz⟩, r4, r5, r6, r7⟩, hX, ⟨d1, -⟩, hE, hT, -⟩ := h
  obtain ⟨-, -, -, -, -, -, -, -, -, -, -, e3, e4, e5, e6⟩ := d1
  exact ⟨r1, r2, rz, r6, fun i hi => ⟨r7 i hi, (hT i hi (by omega)).1.1⟩, hX, ⟨e3, e4, e5, e6⟩, hE⟩
theorem zNH_0 {f : Nat → Int32} (h : ∀ k, k < 16 → f k = -1) : zNH f = 0 := by
  refine zct_no 16 0 (fun i _ hi w => ?_)
  exact (of_decide_eq_true w) (h i (by omega))
/-- a run as it is laid out -/
theorem fresh_ok (hn : 1000 ≤ n) (hC : C < 999999999) (h : KB G C x y s t) : ∃ s2 t2 W2 a b, f74 n x (s.1 1000 7) s = f74_113 n n x 0 s2 ∧ f208 n t = f208_276 n n 0 t2 ∧ RUN (Gh G a b 0) (fun _ _ _ => 0) W2 0 C x y s2 t2 ∧ ∀ i, i < 8 → s2.1 (1036 + 3 * i) 3 = 0 := by
  obtain ⟨hx, hy, hZ, r11, hr8, hX, ⟨k13, k1, k2, k18⟩, hE⟩ := h
  obtain ⟨s2, c1, c2, ⟨c3a, c3b, c3c⟩, c4, ⟨c5a, c5b, c5c, c5d, c5e⟩, c6, c7, c8, c9, ⟨cA, cB, cC, cD, cE, cF', cG, cH⟩, c11, c12⟩ := c_74 (n := n) (Pp := s.1 1000 7) hn hx (fun i hi => (hr8 i hi).1)
  obtain ⟨t2, m1, m2, ⟨m3a, m3b, m3c, m3d, m3e, m3f, m3g, m3h, m3i, m3j⟩, m4, m5, m6, m7, m8, m9⟩ := m_208 (n := n) hn hy r11 (by rw [k13]; decide)
  obtain ⟨z1, z2, z3, z4, z5, z6, z7, z8, z9, z10, z11⟩ := id hZ
  obtain ⟨hN, hD, hB, hS⟩ := id hX
  obtain ⟨hn1, hn2, hn3, -⟩ := id hN
  obtain ⟨e1, ⟨em, em1, em2, em3⟩, ⟨ck, ck1, ck2⟩⟩ := hE
  have h88 := (hn1 8 (by decide)).2.2
  have h60 := (hn1 0 (by decide)).2.2
  have hz0 : s2.1 1000 = s.1 1000 := c12 1000 (by omega)
  have cz : ∀ a, 1000 ≤ a → a ≤ 1002 → s2.1 a = s.1 a := fun a q1 q2 => c12 a (by omega)
  have Z2 : rZ G x y s2 t2 := rZ_fr (fun a ha => c4 a (by omega)) cz (by rw [c2]) (by rw [m2]) (fun a q1 q2 => m9 a (by omega) (by omega)) hy hZ
  have X2 : TX G x y s2 t2 := TX_fr (fun k => c12 _ (by omega)) (fun k => by rw [c2]) (fun k hk => m9 _ (by omega) (by omega)) (by rw [m2]) hX
  obtain ⟨a, ha⟩ : ∃ a : Nat → Nat, ∀ k, s2.1 1034 k = nI (a k) := ⟨fun k => (nI_ex (s2.1 1034 k)).choose, fun k => (nI_ex (s2.1 1034 k)).choose_spec⟩
  obtain ⟨b, hb⟩ : ∃ b : Nat → Nat, ∀ k, t2.1 1248 k = nI (b k) := ⟨fun k => (nI_ex (t2.1 1248 k)).choose, fun k => (nI_ex (t2.1 1248 k)).choose_spec⟩
  refine ⟨s2, t2, fun i k => if i = 4 ∧ k = 1 then ck else 0, a, b, c1, m1, ⟨⟨hx, hy, ⟨c3a, Z2⟩, c3b, c3c, by rw [m2]; exact r11, fun i hi => by rw [c4 1008 (by decide)]; exact (hr8 i hi).1⟩, TX_H X2, ⟨?_, ?_, ?_, ?_, ?_, ?_, ?_, ?_, ?_, ?_, ?_⟩, ?_, fun i hi _ => ?_, fun i j hi hj _ _ _ => ?_⟩, fun i hi => (c11 i hi).1⟩
  · -- rA
    refine ⟨by rw [c5d, m3c], ⟨G 23 2, z7, z8, by rw [c5b, z6], by rw [m3b, k18]⟩, by rw [cD, m3d], by rw [cE, m3e], by rw [cC, m3h], by rw [cF', m3i], by rw [cG, m3j], by rw [c5a]; exact (hn1 8 (by decide)).1, fun k _ => ⟨ha k, hb k⟩, c5c, m3a, by rw [m4 13 (by omega)]; exact k13, by rw [m4 1 (by omega)]; exact k1, by rw [m4 2 (by omega)]; exact k2, by rw [m4 18 (by omega)]; exact k18⟩
  · -- rB
    exact ⟨⟨0, Nat.le_refl _, by rw [cA]; rfl, by rw [m3f]; rfl, fun i hi => by omega⟩, ⟨0, Nat.le_refl _, by rw [cB]; rfl, by rw [m3g]; rfl, fun i hi => by omega⟩, 0, by omega, by rw [c5d]; rfl⟩
  · -- rV
    intro k hk
    have hk' : k < G 6 0 := hk
    rw [c6 k (by omega), (m5 k (by omega)).1]
    exact hD.1 k hk'
  · -- rW
    intro k hk
    rw [(c7 k hk).1, (m6 k hk).1]
    exact ⟨rfl, Or.inl rfl⟩
  · -- rS
    intro k hk
    obtain ⟨⟨v, v1, v2⟩, ⟨u, u1, u2⟩, v3⟩ := hD.2.1 k hk
    refine ⟨v, u, v1, u1, by rw [(c7 k hk).2.1]; exact v2, by rw [(m6 k hk).2.1]; exact u2, fun w => ?_⟩
    have := v3 w
    rw [v2, u2] at this
    exact (neqN (by omega) (by omega)).mp this
  · -- rL
    refine ⟨fun k hk => ?_, fun k hk => ?_⟩
    · rw [(c7 k hk).2.2.1, (m6 k hk).2.2.1]
      exact ⟨rfl, Or.inl rfl⟩
    · rw [c8 k hk, m7 k hk]
  · -- rI
    intro k hk
    exact ⟨0, by omega, by rw [(c7 k hk).2.2.2.1]; rfl, by rw [(m6 k hk).2.2.2.2.2.2.1]; rfl, fun i hi => by omega⟩
  · -- rO
    intro k hk
    exact ⟨0, by omega, by rw [(c7 k hk).2.2.2.2.1]; rfl, by rw [(m6 k hk).2.2.2.2.2.2.2]; rfl, fun i hi => by omega⟩
  · -- rP
    intro k hk
    obtain ⟨-, -, -, -, -, p1, p2, p3⟩ := c7 k hk
    obtain ⟨-, -, -, q1, q2, q3, -⟩ := m6 k hk
    rw [p1, p2, p3, q1, q2, q3]
    exact ⟨rfl, rfl, rfl, Or.inr rfl, Or.inl rfl⟩
  · -- rH
    exact ⟨fun k hk => Or.inl ⟨c9 k hk, m8 k hk⟩, by rw [zNH_0 (fun k hk => c9 k hk)]; omega, Nat.zero_le _⟩
  · -- rC
    refine ⟨by rw [c5e]; rfl, by rw [m4 30 (by omega), ck2]; rfl, by simp, by simpa using ck1, by omega⟩
  · -- rE
    exact ⟨by rw [cH, m4 29 (by omega)]; exact e1, ⟨em, em1, by rw [c12 1009 (by omega)]; exact em2, by rw [m4 28 (by omega)]; exact em3⟩, ck, ck1, by rw [m4 30 (by omega)]; exact ck2⟩
  · -- tasks
    obtain ⟨b1, b2, b3, b4, b5, b6, b7, b8⟩ := c11 i hi
    obtain ⟨-, q1, q2, q3, q4, q5, q6, q7, q8, q9⟩ := m5 i hi
    refine ⟨⟨by rw [b8]; exact (hr8 i hi).2, by rw [b3, q4], by rw [b4, q5], by rw [b5, q6], by rw [b6, q7]⟩, ⟨0, 0, by omega, by rw [b1]; rfl, by rw [q1]; rfl, fun _ => rfl, by omega, by rw [b2]; rfl, by rw [q3]; rfl, fun _ => ⟨rfl, q2⟩, fun w => absurd rfl w, fun w => by omega, fun w => by omega⟩, ⟨by rw [q9]; rfl, Nat.zero_le _, ⟨fun _ => rfl, fun _ => b1⟩, fun _ => ⟨b7, q8⟩, fun w => absurd w (Nat.lt_irrefl 0), fun d hd => absurd hd (Nat.not_lt_zero d)⟩⟩
  · have b1 := (c11 i hi).1
    refine ⟨fun w => ?_, fun w => ?_⟩
    · rw [b1] at w; exact absurd w (by decide)
    · rw [b1] at w; rcases w with w | w <;> exact absurd w (by decide)
/-- a dormant task begins -/
theorem awk_ok (hn : 10 ≤ n) (h : RUN G F W B C x y s t) (ho8 : o < G 6 8) (hC : C < 900000000) (s0 : s.1 (1036 + 3 * o) 3 = 0) : ∃ s2 t2 F2 W2, f80 n (1036 + 3 * o) s = some s2 ∧ f210 n (nI o) t = some t2 ∧ RUN G F2 W2 B (C + 1) x y s2 t2 ∧ oC o s s2 ∧ ¬ wT o s2 := by
  have h8 := (h.2.1.1.1 8 (by decide)).2.2
  have ho : o < 8 := by omega
  have z8 : zin? (nI o) 8 = true := (zinN (by omega)).mpr ho
  obtain ⟨ta, tt1, tf⟩ := h.2.2.2.2.1 o ho (by omega)
  obtain ⟨a, k, b1, b2, b3, b4, b5, b6, b7, b8, -⟩ := id tt1
  have a0 : a = 0 := (neq0 (Nat.lt_of_le_of_lt b1 (by decide))).mp (b2.symm.trans s0)
  have eM : f210 n (nI o) t = yb0 (f211 n (f219 n 4) (nI o) t) fun u3 => some u3 := by
    unfold f210
    rw [if_pos z8, nxN (show o < 2 ^ 31 from Nat.lt_trans ho (by decide)), b3, if_pos (by rw [a0]; rfl)]
  by_cases g : G 9 (G 14 o) = 0
  · obtain ⟨s2, t2, c1, c2, c3, c4, c5, c6, -⟩ := begin_empty hn h ho8 hC s0 g
    exact ⟨s2, t2, F, _, c1, by rw [eM, c2]; rfl, c3, c4, by unfold wT; rw [c6]; decide⟩
  · obtain ⟨a1, a2, a3, a4, -⟩ := id tf
    have hF0 := a3.mp s0
    obtain ⟨d10, d34⟩ := a4 hF0
    obtain ⟨s2, t2, r, c1, c2, c3, c4, c5, c6, -⟩ := begin_ok (n := n) (g := f219 n 4) (k := k) (Nat.lt_of_lt_of_le (by decide) hn) (Or.inr rfl) h ho8 hC ta b5 b6 b7 (by rw [a1, hF0]; rfl) d34 g
    exact ⟨s2, t2, _, _, c1, by rw [eM, c2]; rfl, c3, c4, by unfold wT; rw [c6]; decide⟩
/-- the main tasks begin -/
theorem main_L (hn : 1000 ≤ n) : ∀ m i fu fu2 C (F : Nat → Nat → Nat → Nat) (W : Nat → Nat → Nat) (s t : zσ), RUN G F W B C x y s t → (∀ k, k < 8 → ¬ wT k s) → (∀ k, i ≤ k → k < 8 → s.1 (1036 + 3 * k) 3 = 0) → i + m = G 6 8 → m < fu → m < fu2 → C + m < 900000000 → ∃ s2 t2 F2 W2 C2, f74_113 n fu x (nI i) s = some s2 ∧ f208_276 n fu2 (nI i) t = (yb1 (f220 n t2) fun v4 u3 => some (v4, u3)) ∧ RUN G F2 W2 B C2 x y s2 t2 ∧ (∀ k, k < 8 → ¬ wT k s2) ∧ C2 ≤ C + m := by
  intro m
  induction m with
  | zero =>
    intro i fu fu2 C F W s t h hw hd hi hf hf2 hC
    have a12 : s.1 1007 12 = nI (G 6 8) := h.2.2.1.1.2.2.2.2.2.2.2.1
    obtain ⟨fu, rfl⟩ : ∃ f0, fu = f0 + 1 := ⟨fu - 1, by omega⟩
    obtain ⟨fu2, rfl⟩ : ∃ f0, fu2 = f0 + 1 := ⟨fu2 - 1, by omega⟩
    refine ⟨s, t, F, W, C, ?_, ?_, h, hw, by omega⟩
    · rw [f74_113, a12, show i = G 6 8 by omega, if_neg Int32.lt_irrefl]
    · rw [f208_276, m_209 h, gy1, show i = G 6 8 by omega, if_neg Int32.lt_irrefl]
  | succ m ih =>
    intro i fu fu2 C F W s t h hw hd hi hf hf2 hC
    have h88 := (h.2.1.1.1 8 (by decide)).2.2
    have a12 : s.1 1007 12 = nI (G 6 8) := h.2.2.1.1.2.2.2.2.2.2.2.1
    obtain ⟨fu, rfl⟩ : ∃ f0, fu = f0 + 1 := ⟨fu - 1, by omega⟩
    obtain ⟨fu2, rfl⟩ : ∃ f0, fu2 = f0 + 1 := ⟨fu2 - 1, by omega⟩
    have hi8 : i < 8 := by omega
    have z8 : zin? (nI i) 8 = true := (zinN (by omega)).mpr hi8
    have ni := nxN (show i < 2 ^ 31 by omega)
    have li : nI i < nI (G 6 8) := (nltN (by omega) (by omega)).mpr (by omega)
    obtain ⟨⟨hxx, hyy, -, -, -, r11, rt⟩, ⟨-, hD, -⟩, -⟩ := id h
    obtain ⟨-, ⟨pm, -⟩, -⟩ := hD.2.2.1 i (by omega)
    have e140 : ∀ u : zσ, f74_140 n (f74_113 n fu) x (nI i) u = f74_113 n fu x (nI (i + 1)) u := by
      intro u; unfold f74_140; rw [naddL]
    have e301 : ∀ u : zσ, f208_301 n (f208_276 n fu2) (nI i) u = f208_276 n fu2 (nI (i + 1)) u := by
      intro u; unfold f208_301; rw [naddL]
    have eC : f74_113 n (fu + 1) x (nI i) s = (if s.1 (x + 15) i = 0 then f74_113 n fu x (nI (i + 1)) s else yb0 (f80 n (1036 + 3 * i) s) fun u2 => f74_113 n fu x (nI (i + 1)) u2) := by
      rw [f74_113, a12, if_pos li, if_pos z8, ni, if_pos z8, rt i hi8, grd (gck8 hi8)]
      simp only [e140]
    have eM : f208_276 n (fu2 + 1) (nI i) t = (if s.1 (x + 15) i = 0 then f208_276 n fu2 (nI (i + 1)) t else yb0 (f210 n (nI i) t) fun u6 => f208_276 n fu2 (nI (i + 1)) u6) := by
      rw [f208_276, m_209 h, gy1, if_pos li, r11, grd (gck12 hyy), if_pos z8, ni, ← pm]
      simp only [e301]
    rw [eC, eM]
    by_cases w : s.1 (x + 15) i = 0
    · rw [if_pos w, if_pos w]
      obtain ⟨s2, t2, F2, W2, C2, i1, i2, i3, i4, i5⟩ := ih (i + 1) fu fu2 C F W s t h hw (fun k k1 k2 => hd k (by omega) k2) (by omega) (by omega) (by omega) (by omega)
      exact ⟨s2, t2, F2, W2, C2, i1, i2, i3, i4, by omega⟩
    · rw [if_neg w, if_neg w]
      obtain ⟨s1, t1, F1, W1, a1, a2, a3, a4, a5⟩ := awk_ok (n := n) (by omega) h (show i < G 6 8 by omega) (by omega) (hd i (Nat.le_refl _) hi8)
      have st : ∀ k, k < 8 → k ≠ i → s1.1 (1036 + 3 * k) = s.1 (1036 + 3 * k) := fun k hk e => (oC_j hi8 hk e a4).1
      obtain ⟨s2, t2, F2, W2, C2, i1, i2, i3, i4, i5⟩ := ih (i + 1) fu fu2 (C + 1) F1 W1 s1 t1 a3 (fun k hk => by
        by_cases e : k = i
        · rw [e]; exact a5
        · unfold wT
          rw [st k hk e]
          exact hw k hk) (fun k k1 k2 => by rw [st k k2 (by omega)]; exact hd k (by omega) k2) (by omega) (by omega) (by omega) (by omega)
      exact ⟨s2, t2, F2, W2, C2, by rw [a1, gy0, i1], by rw [a2, gy0, i2], i3, i4, by omega⟩
/-- begin, as a call -/
theorem begin_call (hn : 1000 ≤ n) (hC : C < 799000000) (h : KB G C x y s t) : ∃ v s2 t2 F2 W2 C2 a2 b2, f73 n s = some (v, s2) ∧ f208 n t = some (v, t2) ∧ RUN (Gh G a2 b2 0) F2 W2 0 C2 x y s2 t2 ∧ Nob n x s2 ∧ C2 ≤ C + 8 := by
  have h88 : G 6 8 ≤ 8 := (h.2.2.2.2.2.1.1.1 8 (by decide)).2.2
  obtain ⟨s1, t1, W1, a, b, e1, e2, e3, e4⟩ := fresh_ok hn (by omega) h
  obtain ⟨s2, t2, F2, W2, C2, i1, i2, i3, i4, i5⟩ := main_L (B := 0) hn (G 6 8) 0 n n C _ W1 s1 t1 e3 (fun k hk => by unfold wT; rw [e4 k hk]; decide) (fun k _ hk => e4 k hk) (Nat.zero_add _) (by omega) (by omega) (by omega)
  obtain ⟨hx, hy, ⟨z1, -, -, z4, -⟩, -⟩ := id h
  have iC := inst_ok (n := n) (a := 1) (by omega) i3.1 i3.2.2.1.1 h88
  have iM := ready_ok (n := n) (by omega) i3.1 i3.2.1.1
  have iE := ready_eq i3.2.2.2.2.1 h88
  refine ⟨nI (zct (fun i => decide (s2.1 (1036 + 3 * i) 3 = nI 1)) (G 6 8) 0), s2, t2, F2, W2, C2, a, b, ?_, ?_, i3, fun k hk w => absurd w (i4 k hk), by omega⟩
  · unfold f73
    rw [if_neg (by rw [z4]; decide), z1, grd (gck9 hx).1, e1]
    have i1' : f74_113 n n x 0 s1 = some s2 := i1
    rw [i1', gy0]
    have iC' : f81 n 1 s2 = _ := iC
    rw [iC', gy1]
    rfl
  · rw [e2]
    have i2' : f208_276 n n 0 t1 = _ := i2
    rw [i2', iM, gy1]
    have : zct (fun i => decide (t2.1 1225 i = 1)) (Gh G a b 0 6 8) 0 = zct (fun i => decide (s2.1 (1036 + 3 * i) 3 = nI 1)) (G 6 8) 0 := iE
    rw [this]
end ZCY
