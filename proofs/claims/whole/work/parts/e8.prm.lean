/-! declarations, both readers: parameters -/
section ZRI
variable {U : Nat → Nat} {len x y n K np bl ub q dp nd cd us es na nb q2 p m : Nat} {s0 t0 tz s t s2 t2 s3 t3 sB tB : zσ} {G G2 : Nat → Nat → Nat} {cnt cnt2 : Nat → Nat}
theorem KW_I (h : K ≤ 1) : nI (K + 4294967296) = nI K := by
  rcases Nat.le_one_iff_eq_zero_or_eq_one.mp h with e | e <;> subst e <;> rfl
/-- the readers' relation without what the second reading adds -/
theorem ER_fre (hK : K ≤ 1) (h : ER U len x y s0 t0 K np tz G bl ub q dp nd cd us s t) : ER U len x y s0 t0 (K + 4294967296) np tz G bl ub q dp nd cd us s t := by
  obtain ⟨a1, a2, a3, a4, a5, a6, a7, -⟩ := h
  exact ⟨a1, a2, by rw [KW_I hK]; exact a3, a4, a5, a6, a7, fun e => by omega⟩
/-- parameters read so far -/
def PI (U : Nat → Nat) (len x y : Nat) (s0 t0 : zσ) (K np : Nat) (tz : zσ) (G : Nat → Nat → Nat) (bl ub nd cd us p : Nat) (sB tB : zσ) (m q : Nat) (s t : zσ) : Prop := ER U len x y s0 t0 (K + 4294967296) np tz G bl ub q 0 nd cd us s t ∧ (s.1 1004 3 = nI m ∧ m ≤ 3 ∧ ∀ k, k < m → s.2.1 1006 k = t.2.1 (y + 12) (3 * p + k)) ∧ ((∀ a, a ≠ 1001 → a ≠ 1004 → s.1 a = sB.1 a) ∧ (∀ k, k ≠ 3 → s.1 1004 k = sB.1 1004 k) ∧ (∀ a, a ≠ 1001 → a ≠ 1006 → s.2.1 a = sB.2.1 a)) ∧ ((∀ a, a ≠ 1132 → t.1 a = tB.1 a) ∧ (∀ k, k ≠ 3 → k ≠ 4 → k ≠ 5 → k ≠ 7 → k ≠ 8 → t.1 1132 k = tB.1 1132 k) ∧ (∀ a, a ≠ 1132 → a ≠ y + 12 → t.2.1 a = tB.2.1 a))
theorem PI_tok (hS : S0 U len x y s0 t0) (h : PI U len x y s0 t0 K np tz G bl ub nd cd us p sB tB m q s t) (c1 : CG U len q2 s2) (o1 : zof s s2 1001) (c2 : MG U len q2 t2) (o2 : frN t t2) : PI U len x y s0 t0 K np tz G bl ub nd cd us p sB tB m q2 s2 t2 := by
  have hx := hS.1
  have hy := hS.2.1
  obtain ⟨hE, ⟨a1, a2, a3⟩, ⟨b1, b2, b3⟩, d1, d2, d3⟩ := h
  refine ⟨(er_tok hS hE c1 o1 c2 (frT_N o2) (fun e => by omega)).2, ⟨by rw [(o1.1 1004 (by decide)).1]; exact a1, a2, fun k hk => by rw [(o1.1 1006 (by decide)).2.1, (o2.1 (y + 12) (by omega)).2.1]; exact a3 k hk⟩, ⟨fun a p1 p2 => (o1.1 a p1).1.trans (b1 a p1 p2), fun k hk => by rw [(o1.1 1004 (by decide)).1]; exact b2 k hk, fun a p1 p2 => (o1.1 a p1).2.1.trans (b3 a p1 p2)⟩, fun a p1 => (o2.1 a p1).1.trans (d1 a p1), fun k p1 p2 p3 p4 p5 => (o2.2.1 k p1 p2 p3 p4 p5).trans (d2 k p1 p2 p3 p4 p5), fun a p1 p2 => (o2.1 a p1).2.1.trans (d3 a p1 p2)⟩
theorem PI_add (hS : S0 U len x y s0 t0) (h : PI U len x y s0 t0 K np tz G bl ub nd cd us p sB tB m q s t) (hm : m < 3) (hnm : s.2.1 1001 7 = t.2.1 1132 6) : PI U len x y s0 t0 K np tz G bl ub nd cd us p sB tB (m + 1) q (sJ (sI s 1004 3 (nI (m + 1))) 1006 m (s.2.1 1001 7)) (sJ t (y + 12) (3 * p + m) (t.2.1 1132 6)) := by
  have hx := hS.1
  have hy := hS.2.1
  obtain ⟨hE, ⟨a1, a2, a3⟩, ⟨b1, b2, b3⟩, d1, d2, d3⟩ := h
  obtain ⟨⟨e1, e1'⟩, ⟨e2, e2'⟩, e3, ⟨f1, f2, f3⟩, ⟨n1, n2, n3⟩, ⟨k1, k2, k3⟩, ⟨u1, u2⟩, -⟩ := hE
  refine ⟨⟨⟨BC_J (by omega) (BC_I hx (by omega) (by omega) e1), CG_J (by omega) (by omega) (CG_I (by omega) (by omega) (by omega) e1')⟩, ⟨⟨⟨e2.1.1, fun b c1 c2 c3 c4 => ?_, e2.1.2.2.1, e2.1.2.2.2⟩, e2.2⟩, MG_J (by omega) e2'⟩, ?_, ⟨?_, f2, f3⟩, ⟨?_, n2, n3⟩, ⟨?_, k2, k3⟩, ⟨u1, u2⟩, fun e => by omega⟩, ⟨?_, by omega, fun k hk => ?_⟩, ⟨fun a p1 p2 => ?_, fun k hk => ?_, fun a p1 p2 => ?_⟩, d1, d2, fun a p1 p2 => ?_⟩
  · rw [← e2.1.2.1 b c1 c2 c3 c4]; funext j; rw [gJ, if_neg (by omega)]
  · rw [gJ1, hIk (by decide)]; exact e3
  · rw [gJ1, hIk (by decide)]; exact f1
  · rw [gJ1, hIo (by omega)]; exact n1
  · rw [gJ1, hIo (by omega)]; exact k1
  · rw [gJ1]; exact hIe
  · rw [gJ, gJ]
    by_cases e : k = m
    · rw [if_pos ⟨rfl, e⟩, if_pos ⟨rfl, by rw [e]⟩]; exact hnm
    · rw [if_neg (by omega), if_neg (by omega)]; exact a3 k (by omega)
  · rw [gJ1, hIo p2]; exact b1 a p1 p2
  · rw [gJ1, hIk hk]; exact b2 k hk
  · rw [← b3 a p1 p2]; funext j; rw [gJ, if_neg (by omega)]; rfl
  · rw [← d3 a p1 p2]; funext j; rw [gJ, if_neg (by omega)]
theorem c_38 (h3 : s.1 1004 3 = nI m) (hm : m ≤ 3) : ∀ (d i j : Nat), i + d = m → d < j → ((∃ k, i ≤ k ∧ k < m ∧ s.2.1 1006 k = s.2.1 1001 7) → f38_35 n j (nI i) s = yb1 (f32 n (4 : Int32) s) fun v5 u4 => some u4) ∧ ((∀ k, i ≤ k → k < m → ¬ s.2.1 1006 k = s.2.1 1001 7) → m < 3 → f38_35 n j (nI i) s = yb0 (f26 n (sJ (sI s 1004 3 (nI (m + 1))) 1006 m (s.2.1 1001 7))) fun u3 => some u3) := by
  intro d
  induction d with
  | zero =>
    intro i j hd hj
    obtain ⟨j, rfl⟩ : ∃ j0, j = j0 + 1 := ⟨j - 1, by omega⟩
    refine ⟨fun ⟨k, a, b, _⟩ => by omega, fun _ h => ?_⟩
    have e : i = m := by omega
    subst e
    rw [f38_35, h3, if_neg Int32.lt_irrefl]
    have hz : zin? (nI i) 3 = true := zin_nI h (by decide)
    simp only [zlet, if_pos hz, nx_nI (show i < 2 ^ 31 by omega), nI_1]
    rfl
  | succ d ih =>
    intro i j hd hj
    obtain ⟨j, rfl⟩ : ∃ j0, j = j0 + 1 := ⟨j - 1, by omega⟩
    have e : f38_35 n (j + 1) (nI i) s = if s.2.1 1006 i = s.2.1 1001 7 then (yb1 (f32 n (4 : Int32) s) fun v5 u4 => some u4) else f38_35 n j (nI (i + 1)) s := by
      rw [f38_35, h3, if_pos (nI_lt (by omega) (by omega)), if_pos (zin_nI (show i < 3 by omega) (by decide)), nx_nI (show i < 2 ^ 31 by omega), nI_1]
    obtain ⟨g1, g2⟩ := ih (i + 1) j (by omega) (by omega)
    rw [e]
    by_cases h : s.2.1 1006 i = s.2.1 1001 7
    · rw [if_pos h]
      exact ⟨fun _ => rfl, fun h2 => absurd h (h2 i (Nat.le_refl _) (by omega))⟩
    · rw [if_neg h]
      refine ⟨fun ⟨k, a, b, e2⟩ => g1 ⟨k, ?_, b, e2⟩, fun h2 => g2 (fun k a b => h2 k (by omega) b)⟩
      have : k ≠ i := fun e3 => h (e3 ▸ e2)
      omega
theorem m_65 {r : Int32 → Nat → Int32 → Int32 → zσ → Option zσ} (hp : p < 6) (hm : m < 3) : ∀ (d i j : Nat), i + d = m → d < j → ((∃ k, i ≤ k ∧ k < m ∧ t.2.1 (y + 12) (3 * p + k) = t.2.1 1132 6) → f180_65 n r j (nI p) y (nI m) (nI i) t = yb0 (f173 n (4 : Int32) (t.1 1132 4) t) fun u6 => some u6) ∧ ((∀ k, i ≤ k → k < m → ¬ t.2.1 (y + 12) (3 * p + k) = t.2.1 1132 6) → f180_65 n r j (nI p) y (nI m) (nI i) t = yb0 (f164 n (sJ t (y + 12) (3 * p + m) (t.2.1 1132 6))) fun u2 => yb1 (f177 n (44 : Int32) u2) fun v4 u3 => if v4 = (0 : Int32) then r (nI p) y (nI (m + 1)) v4 u3 else yb0 (f164 n u3) fun u5 => r (nI p) y (nI (m + 1)) v4 u5) := by
  have e3 : ∀ i, (3 : Int32) * nI p + nI i = nI (3 * p + i) := fun i => by rw [nLmul, naddN]
  intro d
  induction d with
  | zero =>
    intro i j hd hj
    obtain ⟨j, rfl⟩ : ∃ j0, j = j0 + 1 := ⟨j - 1, by omega⟩
    refine ⟨fun ⟨k, a, b, _⟩ => by omega, fun _ => ?_⟩
    have e : i = m := by omega
    subst e
    rw [f180_65, if_neg Int32.lt_irrefl, e3, if_pos (zin_nI (show 3 * p + i < 18 by omega) (by decide)), nx_nI (show 3 * p + i < 2 ^ 31 by omega), nI_1]
    rfl
  | succ d ih =>
    intro i j hd hj
    obtain ⟨j, rfl⟩ : ∃ j0, j = j0 + 1 := ⟨j - 1, by omega⟩
    have e : f180_65 n r (j + 1) (nI p) y (nI m) (nI i) t = if t.2.1 (y + 12) (3 * p + i) = t.2.1 1132 6 then (yb0 (f173 n (4 : Int32) (t.1 1132 4) t) fun u6 => some u6) else f180_65 n r j (nI p) y (nI m) (nI (i + 1)) t := by
      rw [f180_65, if_pos (nI_lt (by omega) (by omega)), e3, if_pos (zin_nI (show 3 * p + i < 18 by omega) (by decide)), nx_nI (show 3 * p + i < 2 ^ 31 by omega), nI_1]
    obtain ⟨g1, g2⟩ := ih (i + 1) j (by omega) (by omega)
    rw [e]
    by_cases h : t.2.1 (y + 12) (3 * p + i) = t.2.1 1132 6
    · rw [if_pos h]
      exact ⟨fun _ => rfl, fun h2 => absurd h (h2 i (Nat.le_refl _) (by omega))⟩
    · rw [if_neg h]
      refine ⟨fun ⟨k, a, b, e2⟩ => g1 ⟨k, ?_, b, e2⟩, fun h2 => g2 (fun k a b => h2 k (by omega) b)⟩
      have : k ≠ i := fun e3 => h (e3 ▸ e2)
      omega
/-- the loop of parameters -/
theorem prm_L {v3 : Int32} (hn : 5000 ≤ n) (hS : S0 U len x y s0 t0) (hp : p < 6) : ∀ (d m q : Nat) (s t : zσ) (fl : Int32) (j j2 : Nat), m + d = 4 → d < j → d < j2 → (fl = 0 ∨ fl = 1) → PI U len x y s0 t0 K np tz G bl ub nd cd us p sB tB m q s t → (∃ s2 t2 m2 q2, f33_40 n j v3 fl (nI m) s = f33_66 n v3 s2 ∧ f180_30 n j2 (nI p) y (nI m) fl t = some (sI t2 (y + 11) p (nI m2)) ∧ PI U len x y s0 t0 K np tz G bl ub nd cd us p sB tB m2 q2 s2 t2 ∧ q ≤ q2) ∨ (∃ f z s2 t2, f33_40 n j v3 fl (nI m) s = f33_66 n v3 s2 ∧ FC len x s0 f z s2 ∧ f180_30 n j2 (nI p) y (nI m) fl t = some t2 ∧ FM len y t0 f z t2) := by
  have hx := hS.1
  have hy := hS.2.1
  intro d
  induction d with
  | zero => intro m q s t fl j j2 hd _ _ _ h; exact absurd h.2.1.2.1 (by omega)
  | succ d ih =>
    intro m q s t fl j j2 hd hj hj2 hfl h
    obtain ⟨j, rfl⟩ : ∃ j0, j = j0 + 1 := ⟨j - 1, by omega⟩
    obtain ⟨j2, rfl⟩ : ∃ j0, j2 = j0 + 1 := ⟨j2 - 1, by omega⟩
    obtain ⟨hE, ⟨a1, a2, a3⟩, -, -⟩ := id h
    have zp : zin? (nI p) 6 = true := zin_nI hp (by decide)
    have np' : nx (nI p) = p := nx_nI (by omega)
    rcases hfl with hf | hf
    · subst hf
      refine Or.inl ⟨s, t, m, q, by rw [f33_40, if_pos rfl], ?_, h, Nat.le_refl _⟩
      rw [f180_30, if_pos rfl, if_pos zp, np']; rfl
    · subst hf
      have hnl : ¬ (3 : Int32) < nI m := nI_nlt (a := 3) (by omega) (by omega)
      have hst : ∀ (f z : Nat) (s2 : zσ), f38 n s = some s2 → FC len x s0 f z s2 → f33_40 n (j + 1) v3 1 (nI m) s = f33_66 n v3 s2 := fun f z s2 e1 g1 => by
        obtain ⟨j0, rfl⟩ : ∃ j0, j = j0 + 1 := ⟨j - 1, by omega⟩
        have e39 : f39 n 44 s2 = some (0, s2) := by unfold f39; rw [if_neg (fc_k g1 (by decide))]
        rw [f33_40, if_neg n10, if_neg hnl, e1, yb0_s, e39, yb1_s, f33_40, if_pos rfl]
      have c0 : f180_30 n (j2 + 1) (nI p) y (nI m) 1 t = yb1 (f175 n t) fun v3 u2 => if v3 = (0 : Int32) then (yb0 (f172 n u2) fun u5 => some u5) else if nI m = (3 : Int32) then (yb0 (f173 n (3 : Int32) (u2.1 1132 4) u2) fun u4 => some u4) else f180_65 n (f180_30 n j2) n (nI p) y (nI m) (0 : Int32) u2 := by
        rw [f180_30, if_neg n10]
      by_cases hk : tkKind U len q = 1
      · have hk0 : ¬ tkKind U len q = 0 := by rw [hk]; decide
        rw [tm_name hn hE.2.1.2.1, yb1_s, zone_1 hk, if_neg n10] at c0
        by_cases h3 : m = 3
        · subst h3
          obtain ⟨s2, x1, g1⟩ := er_ref (n := n) (f := 3) hS hE
          obtain ⟨t2, x2, g2⟩ := er_wrong (n := n) (f := 3) hS (by decide) hE
          rw [zft_3 hk0] at g1
          refine Or.inr ⟨3, q, s2, t2, hst 3 q s2 ?_ g1, g1, ?_, g2⟩
          · unfold f38
            rw [ER_k hE, if_pos hk, a1, if_neg (show ¬ nI 3 < (3 : Int32) by decide), show f32 n 3 s = _ from x1]; rfl
          · rw [c0, if_pos (show nI 3 = (3 : Int32) from rfl), show f173 n 3 (t.1 1132 4) t = _ from x2]; rfl
        · have hm3 : m < 3 := by omega
          have hnm3 : ¬ nI m = (3 : Int32) := fun e => h3 ((nIe (u := m) (k := 3) (by omega) (by decide)).mp e)
          rw [if_neg hnm3] at c0
          have e38 : f38 n s = f38_35 n n (nI 0) s := by
            unfold f38
            rw [ER_k hE, if_pos hk, a1, if_pos (show nI m < (3 : Int32) from nI_lt (b := 3) hm3 (by decide))]; rfl
          have hnm : s.2.1 1001 7 = t.2.1 1132 6 := by
            obtain ⟨hq, hU, -⟩ := ER_q hE
            obtain ⟨-, hnmT, -, -⟩ := m_k1p hE (Or.inl hk)
            have hql := tk_lt hE (by rw [hk]; decide)
            rw [hnmT]
            have hl := (k_lf hU hq (Or.inl hk))
            have hlt : zltU (U q) = true := by
              rcases tk_cases hU hq with ⟨e, -, -⟩ | ⟨-, e, -⟩ | ⟨-, hl, -, -⟩ | ⟨-, hl, -⟩ | ⟨-, -, -, e, -⟩ | ⟨-, a, b, -, -, -⟩
              · omega
              · rw [hk] at e; exact absurd e (by decide)
              · exact hl
              · exact hl
              · rw [hk] at e; exact absurd e (by decide)
              · rcases hl.2 with e | e
                · exact absurd e a
                · exact absurd e b
            exact hE.1.2.1.2.2.2.2.2.2.1 hql hlt
          obtain ⟨cA, cB⟩ := c_38 (n := n) a1 a2 m 0 n (by omega) (by omega)
          obtain ⟨mA, mB⟩ := m_65 (n := n) (y := y) (t := t) (r := f180_30 n j2) hp hm3 m 0 n (by omega) (by omega)
          by_cases hdup : ∃ k, 0 ≤ k ∧ k < m ∧ s.2.1 1006 k = s.2.1 1001 7
          · obtain ⟨s2, x1, g1⟩ := er_ref (n := n) (f := 4) hS hE
            obtain ⟨t2, x2, g2⟩ := er_wrong (n := n) (f := 4) hS (by decide) hE
            have hz4 : zft U len q 4 = 4 := if_neg hk0
            rw [hz4] at g1
            refine Or.inr ⟨4, q, s2, t2, hst 4 q s2 ?_ g1, g1, ?_, g2⟩
            · rw [e38, cA hdup, show f32 n 4 s = _ from x1]; rfl
            · obtain ⟨k, k1, k2, k3⟩ := hdup
              rw [c0, show (0 : Int32) = nI 0 from rfl, mA ⟨k, k1, k2, by rw [← a3 k k2, k3, hnm]⟩, show f173 n 4 (t.1 1132 4) t = _ from x2]; rfl
          · have cno : ∀ k, 0 ≤ k → k < m → ¬ s.2.1 1006 k = s.2.1 1001 7 := fun k p1 p2 e => hdup ⟨k, p1, p2, e⟩
            have ec := e38.trans (cB cno hm3)
            have eM := mB (fun k p1 p2 e => cno k p1 p2 (by rw [a3 k p2, e, hnm]))
            have hA := PI_add hS h hm3 hnm
            obtain ⟨s2, e1, c1, o1⟩ := c_adv hn hA.1.1.2
            obtain ⟨t2, e2, c2, o2⟩ := m_next hn hA.1.2.1.2
            have hA2 := PI_tok hS hA c1 o1 c2 o2
            have hqq : ∀ q, q ≤ len → q ≤ tkNx U len q := fun q hq => by
              rcases Nat.lt_or_ge q len with e | e
              · exact Nat.le_of_lt (tkNx_gt e)
              · have : q = len := by omega
                subst this; rw [tkNx_l]; exact Nat.le_refl _
            have q1 := hqq q (ER_q hE).1
            have ec2 : f38 n s = some s2 := by rw [ec, e1]; rfl
            have m1 : f180_30 n (j2 + 1) (nI p) y (nI m) 1 t = yb1 (f177 n (44 : Int32) t2) fun v4 u3 => if v4 = (0 : Int32) then f180_30 n j2 (nI p) y (nI (m + 1)) v4 u3 else yb0 (f164 n u3) fun u5 => f180_30 n j2 (nI p) y (nI (m + 1)) v4 u5 := by
              rw [c0, show (0 : Int32) = nI 0 from rfl, eM, e2, yb0_s]; rfl
            rw [show f177 n 44 t2 = _ from tm_sign (c := 44) hA2.1.2.1.2.1 (by decide) (by decide), yb1_s] at m1
            have cc : f33_40 n (j + 1) v3 1 (nI m) s = yb1 (f39 n 44 s2) fun w u2 => f33_40 n j v3 w (nI (m + 1)) u2 := by
              rw [f33_40, if_neg n10, if_neg hnl, ec2, yb0_s, nI_1]
            by_cases h44 : tkKind U len (tkNx U len q) = nI 44
            · rw [zone_1 h44, if_neg n10] at m1
              obtain ⟨s3, e3, c3, o3⟩ := c_adv hn hA2.1.1.2
              obtain ⟨t3, e4, c4, o4⟩ := m_next hn hA2.1.2.1.2
              have hA3 := PI_tok hS hA2 c3 o3 c4 o4
              have q3 := hqq _ (ER_q hA2.1).1
              rw [e4, yb0_s] at m1
              have e39 : f39 n 44 s2 = some (1, s3) := by unfold f39; rw [ER_k hA2.1, if_pos (show tkKind U len (tkNx U len q) = 44 from h44), e3]; rfl
              rw [e39, yb1_s] at cc
              rw [m1, cc]
              rcases ih (m + 1) _ s3 t3 1 j j2 (by omega) (by omega) (by omega) (Or.inr rfl) hA3 with ⟨sF, tF, m2, q2, r1, r2, r3, r4⟩ | ⟨f, z, sF, tF, r1, r2, r3, r4⟩
              · exact Or.inl ⟨sF, tF, m2, q2, r1, r2, r3, by omega⟩
              · exact Or.inr ⟨f, z, sF, tF, r1, r2, r3, r4⟩
            · rw [zone_0 h44, if_pos rfl] at m1
              have e39 : f39 n 44 s2 = some (0, s2) := by unfold f39; rw [ER_k hA2.1, if_neg (show ¬ tkKind U len (tkNx U len q) = 44 from h44)]
              rw [e39, yb1_s] at cc
              rw [m1, cc]
              rcases ih (m + 1) _ s2 t2 0 j j2 (by omega) (by omega) (by omega) (Or.inl rfl) hA2 with ⟨sF, tF, m2, q2, r1, r2, r3, r4⟩ | ⟨f, z, sF, tF, r1, r2, r3, r4⟩
              · exact Or.inl ⟨sF, tF, m2, q2, r1, r2, r3, by omega⟩
              · exact Or.inr ⟨f, z, sF, tF, r1, r2, r3, r4⟩
      · obtain ⟨s2, x1, g1⟩ := er_ref (n := n) (f := 2) hS hE
        obtain ⟨t2, x2, g2⟩ := er_cant (n := n) hS hE
        rw [tm_name hn hE.2.1.2.1, yb1_s, zone_0 hk, if_pos rfl] at c0
        refine Or.inr ⟨_, q, s2, t2, hst _ q s2 ?_ g1, g1, ?_, g2⟩
        · unfold f38
          rw [ER_k hE, if_neg hk, show f32 n 2 s = _ from x1]; rfl
        · rw [c0, x2]; rfl
end ZRI
