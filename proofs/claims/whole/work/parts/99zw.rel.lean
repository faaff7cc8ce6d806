/-! the relation between two calls; the small calls -/
section ZDD
variable {G W W2 : Nat → Nat → Nat} {F F2 : Nat → Nat → Nat → Nat} {B C B2 C2 x y n i j o k v p D r N P g z q c : Nat} {s t s2 t2 s' t' : zσ} {a b : Nat → Nat}
/-- both objects, whatever they have -/
def KZ (G : Nat → Nat → Nat) (C x y : Nat) (s t : zσ) : Prop := (x = 1060 ∨ x = 1096) ∧ (y = 1134 ∨ y = 1170) ∧ (s.2.2 1000 3 = some x ∧ s.2.2 1000 4 = some (2156 - x) ∧ t.2.2 1132 11 = some y ∧ t.2.2 1132 12 = some (2304 - y)) ∧ (s.1 1000 6 = nI (G 23 1) ∧ t.1 1132 2 = nI (G 23 1)) ∧ (s.1 1000 7 = nI (G 23 2) ∧ t.1 1132 18 = nI (G 23 2) ∧ 1 ≤ G 23 2 ∧ G 23 2 ≤ 3) ∧ (s.1 1001 2 = nI (G 23 0) ∧ t.1 1132 1 = nI (G 23 0) ∧ G 23 0 ≤ 4000 ∧ ∀ k, k < G 23 0 → zTp (s.1 1002 k) (t.1 1133 k)) ∧ zCn y s t ∧ (∀ i, i < 8 → s.2.2 1008 i = some (1036 + 3 * i) ∧ s.1 (1036 + 3 * i) 0 = nI i) ∧ rE C s t
/-- the class's text that is not there -/
def emp (x : Nat) (s : zσ) : Prop := (∀ k, k < 9 → s.1 (x + 11) k = 0) ∧ s.1 (x + 19) 9 = 0 ∧ s.1 (x + 19) 10 = 0
theorem KB_iff : KB G C x y s t ↔ KZ G C x y s t ∧ s.1 1000 5 = 1 ∧ t.1 1132 13 = 1 ∧ TX G x y s t := by
  constructor
  · rintro ⟨h1, h2, ⟨z1, z2, z3, z4, z5, z6, z7, z8, z9, z10, z11, z12⟩, h4, h5, h6, ⟨k1, k2, k3, k4⟩, h8⟩
    exact ⟨⟨h1, h2, ⟨z1, z2, h4, z3⟩, ⟨z5, k3⟩, ⟨z6, k4, z7, z8⟩, ⟨z9, k2, z10, z11⟩, z12, h5, h8⟩, z4, k1, h6⟩
  · rintro ⟨⟨h1, h2, ⟨z1, z2, h4, z3⟩, ⟨z5, k3⟩, ⟨z6, k4, z7, z8⟩, ⟨z9, k2, z10, z11⟩, z12, h5, h8⟩, z4, k1, h6⟩
    exact ⟨h1, h2, ⟨z1, z2, z3, z4, z5, z6, z7, z8, z9, z10, z11, z12⟩, h4, h5, h6, ⟨k1, k2, k3, k4⟩, h8⟩
/-- behind c calls -/
def Rel (c : Nat) (s t : zσ) : Prop := ∃ G x y C, C ≤ 200000 * c ∧ KZ G C x y s t ∧ ((s.1 1000 5 = 0 ∧ t.1 1132 13 = 0 ∧ emp x s ∧ s.1 1007 11 = 0 ∧ t.1 1132 17 = 0 ∧ ∀ k, k < 4 → ∃ v, v < 2 ^ 31 ∧ t.1 (y + 6) k = nI v) ∨ (s.1 1000 5 = 1 ∧ t.1 1132 13 = 1 ∧ TX G x y s t ∧ s.1 1007 11 = 0 ∧ t.1 1132 17 = 0) ∨ (∃ F W B a b, B ≤ 2000 * c ∧ RUN (Gh G a b 0) F W B C x y s t ∧ Nob 1000 x s))
theorem Rel_up {c d : Nat} (h : Rel c s t) (hd : c ≤ d) : Rel d s t := by
  obtain ⟨G, x, y, C, h1, h2, h3⟩ := h
  refine ⟨G, x, y, C, by omega, h2, ?_⟩
  rcases h3 with h3 | h3 | ⟨F, W, B, a, b, e1, e2⟩
  · exact Or.inl h3
  · exact Or.inr (Or.inl h3)
  · exact Or.inr (Or.inr ⟨F, W, B, a, b, by omega, e2⟩)
/-- a pair of calls -/
def pc (c : Nat) (f g : Nat → zσ → Option (Int32 × zσ)) : Prop := ∀ s t, Rel c s t → ∃ n m v s2 t2, f n s = some (v, s2) ∧ g m t = some (v, t2) ∧ Rel (c + 1) s2 t2
/-- of a run: calls that give aft -/
theorem pc_aft {f g : Nat → zσ → Option (Int32 × zσ)} (hc : c ≤ 2100) (h0 : ∀ s t, Rel c s t → s.1 1007 11 = 0 → t.1 1132 17 = 0 → ∃ v, f 1000 s = some (v, s) ∧ g 1000 t = some (v, t)) (h1 : ∀ (G : Nat → Nat → Nat) x y B C F W a b s t, B ≤ 2000 * c → C ≤ 200000 * c → eR (Gh G a b 0) W F B C x y s t → Nob 1000 x s → aft G B C x y 1000 (f 1000) (g 1000) s t) : pc c f g := by
  intro s t h
  have h' := h
  obtain ⟨G, x, y, C, e1, e2, e3⟩ := h
  have idle : s.1 1007 11 = 0 → t.1 1132 17 = 0 → ∃ n m v s2 t2, f n s = some (v, s2) ∧ g m t = some (v, t2) ∧ Rel (c + 1) s2 t2 := by
    intro q1 q2
    obtain ⟨v, v1, v2⟩ := h0 s t h' q1 q2
    exact ⟨1000, 1000, v, s, t, v1, v2, Rel_up h' (Nat.le_succ _)⟩
  rcases e3 with ⟨-, -, -, q1, q2, -⟩ | ⟨-, -, -, q1, q2⟩ | ⟨F, W, B, a, b, b1, b2, b3⟩
  · exact idle q1 q2
  · exact idle q1 q2
  · have rA' := b2.2.2.1.1
    obtain ⟨-, -, -, -, -, -, -, -, -, r1, r2, -⟩ := id rA'
    obtain ⟨v, s2, t2, F2, W2, B2, C2, a2, b2', v1, v2, v3, v4, v5, v6⟩ := h1 G x y B C F W a b s t b1 e1 ⟨r1, r2, b2.1.2.2.1.2.1, b2⟩ b3
    refine ⟨1000, 1000, v, s2, t2, v1, v2, G, x, y, C2, by omega, ?_, Or.inr (Or.inr ⟨F2, W2, B2, a2, b2', by omega, v3, v4⟩)⟩
    have := (KB_iff.mp (KB_run v3)).1
    exact this
/-- answers that only read a run -/
theorem aft_eq2 {f g : zσ → Option (Int32 × zσ)} (h : eR (Gh G a b 0) W F B C x y s t) (hN : Nob n x s) (he : eq2 f g s t) : aft G B C x y n f g s t := by
  obtain ⟨v, e1, e2⟩ := he
  exact aft_rf h.2.2.2 hN e1 e2
theorem pc_trigger (hc : c ≤ 2100) (q : Int32) : pc c (fun n s => f133 n q s) (fun n s => f267 n q s) := by
  refine pc_aft hc (fun s t _ q1 q2 => ⟨-3, by show f133 1000 q s = _; unfold f133; rw [if_pos q1], by show f267 1000 q t = _; unfold f267; rw [if_pos q2]⟩) (fun G x y B C F W a b s t hB hC h hN => trig_ok (Nat.le_refl _) (by omega) h hN q)
theorem pc_send (hc : c ≤ 2100) (q u : Int32) : pc c (fun n s => f135 n q u s) (fun n s => f268 n q u s) := by
  refine pc_aft hc (fun s t _ q1 q2 => ⟨-3, by show f135 1000 q u s = _; unfold f135; rw [if_pos q1], by show f268 1000 q u t = _; unfold f268; rw [if_pos q2]⟩) (fun G x y B C F W a b s t hB hC h hN => send_ok (Nat.le_refl _) (by omega) h hN q u)
theorem pc_ring (hc : c ≤ 2100) (q : Int32) : pc c (fun n s => f151 n q s) (fun n s => f281 n q s) := by
  refine pc_aft hc (fun s t _ q1 q2 => ⟨-3, by show f151 1000 q s = _; unfold f151; rw [if_pos q1], by show f281 1000 q t = _; unfold f281; rw [if_pos q2]⟩) (fun G x y B C F W a b s t hB hC h hN => ring_ok (Nat.le_refl _) h hN q)
theorem pc_run (hc : c ≤ 2100) (q : Int32) : pc c (fun n s => f82 n q s) (fun n s => f221 n q s) := by
  refine pc_aft hc (fun s t _ q1 q2 => ?_) (fun G x y B C F W a b s t hB hC h hN => run_ok (Nat.le_refl _) (by omega) (by omega) h hN q)
  by_cases w1 : q < 1
  · exact ⟨-2, by show f82 1000 q s = _; unfold f82; rw [if_pos w1], by show f221 1000 q t = _; unfold f221; rw [if_pos w1]⟩
  · by_cases w2 : (500 : Int32) < q
    · exact ⟨-2, by show f82 1000 q s = _; unfold f82; rw [if_neg w1, if_pos w2], by show f221 1000 q t = _; unfold f221; rw [if_neg w1, if_pos w2]⟩
    · exact ⟨-3, by show f82 1000 q s = _; unfold f82; rw [if_neg w1, if_neg w2, if_pos q1], by show f221 1000 q t = _; unfold f221; rw [if_neg w1, if_neg w2, if_pos q2]⟩
theorem pc_waits (hc : c ≤ 2100) (q1 q2 q3 : Int32) : pc c (fun n s => f146 n q1 q2 q3 s) (fun n s => f278 n q1 q2 q3 s) := by
  refine pc_aft hc (fun s t _ w1 w2 => ⟨-3, by show f146 1000 q1 q2 q3 s = _; unfold f146; rw [if_pos w1], by show f278 1000 q1 q2 q3 t = _; unfold f278; rw [if_pos w2]⟩) (fun G x y B C F W a b s t hB hC h hN => aft_eq2 h hN (ea_waits (Nat.le_refl _) h q1 q2 q3))
/-- begin -/
theorem pc_begin (hc : c ≤ 2100) : pc c (fun n s => f73 n s) (fun n s => f208 n s) := by
  intro s t h
  have h' := h
  obtain ⟨G, x, y, C, e1, e2, e3⟩ := h
  have go : KB G C x y s t → ∃ n m v s2 t2, f73 n s = some (v, s2) ∧ f208 m t = some (v, t2) ∧ Rel (c + 1) s2 t2 := by
    intro hK
    obtain ⟨v, s2, t2, F2, W2, C2, a2, b2, v1, v2, v3, v4, v5⟩ := begin_call (n := 1000) (Nat.le_refl _) (by omega) hK
    exact ⟨1000, 1000, v, s2, t2, v1, v2, G, x, y, C2, by omega, (KB_iff.mp (KB_run v3)).1, Or.inr (Or.inr ⟨F2, W2, 0, a2, b2, Nat.zero_le _, v3, v4⟩)⟩
  rcases e3 with ⟨q1, q2, -⟩ | ⟨q1, q2, q3, -⟩ | ⟨F, W, B, a, b, b1, b2, b3⟩
  · refine ⟨1000, 1000, -3, s, t, ?_, ?_, Rel_up h' (Nat.le_succ _)⟩
    · show f73 1000 s = _
      unfold f73
      rw [if_pos q1]
    · show f208 1000 t = _
      unfold f208
      rw [if_pos q2]
  · exact go (KB_iff.mpr ⟨e2, q1, q2, q3⟩)
  · have k : KB (Gh G a b 0) C x y s t := KB_run b2
    exact go k
/-- place -/
theorem pc_place : pc c (fun n s => f69 n s) (fun n s => f204 n s) := by
  intro s t h
  have h' := h
  obtain ⟨G, x, y, C, e1, ⟨-, -, -, ⟨p1, p2⟩, -⟩, e3⟩ := h
  exact ⟨0, 0, nI (G 23 1), s, t, by show f69 0 s = _; unfold f69; rw [p1], by show f204 0 t = _; unfold f204; rw [p2], Rel_up h' (Nat.le_succ _)⟩
/-- the text of both, or none -/
theorem Rel_tx (h : Rel c s t) : ∃ G x y, (x = 1060 ∨ x = 1096) ∧ (y = 1134 ∨ y = 1170) ∧ s.2.2 1000 3 = some x ∧ t.2.2 1132 11 = some y ∧ zCn y s t ∧ ((s.1 1000 5 = 0 ∧ t.1 1132 13 = 0 ∧ emp x s) ∨ (t.1 1132 13 = 1 ∧ TX G x y s t)) := by
  obtain ⟨G, x, y, C, e1, ⟨h1, h2, ⟨z1, z2, z3, z4⟩, -, -, -, zc, -⟩, e3⟩ := h
  rcases e3 with ⟨q1, q2, q3, -⟩ | ⟨q1, q2, q3, -⟩ | ⟨F, W, B, a, b, b1, b2, b3⟩
  · exact ⟨G, x, y, h1, h2, z1, z3, zc, Or.inl ⟨q1, q2, q3⟩⟩
  · exact ⟨G, x, y, h1, h2, z1, z3, zc, Or.inr ⟨q2, q3⟩⟩
  · obtain ⟨-, -, k13, kX⟩ := KB_iff.mp (KB_run b2)
    exact ⟨G, x, y, h1, h2, z1, z3, zc, Or.inr ⟨k13, kX⟩⟩
theorem pc_declared (q : Int32) : pc c (fun n s => f70 n q s) (fun n s => f205 n q s) := by
  intro s t h
  obtain ⟨G, x, y, hx, hy, r3, r11, -, hT⟩ := Rel_tx h
  have k9 := (gck9 hx).1
  have k12 := gck12 hy
  refine ⟨0, 0, ?_⟩
  have fin : ∀ v, f70 0 q s = some (v, s) → f205 0 q t = some (v, t) → ∃ v s2 t2, f70 0 q s = some (v, s2) ∧ f205 0 q t = some (v, t2) ∧ Rel (c + 1) s2 t2 := fun v e1 e2 => ⟨v, s, t, e1, e2, Rel_up h (Nat.le_succ _)⟩
  by_cases w1 : q < 0
  · exact fin (-2) (by unfold f70; rw [if_pos w1]) (by unfold f205; rw [if_pos w1])
  · by_cases w2 : (10 : Int32) < q
    · exact fin (-2) (by unfold f70; rw [if_neg w1, if_pos w2]) (by unfold f205; rw [if_neg w1, if_pos w2])
    · obtain ⟨k, hk, rfl⟩ := nI_of w1
      have k10 : k ≤ 10 := by
        rcases Nat.lt_or_ge 10 k with u | u
        · exact absurd ((nltN (a := 10) (by decide) hk).mpr u) w2
        · exact u
      have eC : f70 0 (nI k) s = (if nI k = 9 then some (s.1 (x + 19) 9, s) else if nI k = 10 then some (s.1 (x + 19) 10, s) else if zin? (nI k) 9 = true then some (s.1 (x + 11) k, s) else none) := by
        unfold f70
        rw [if_neg w1, if_neg w2, r3, grd k9, grd k9, grd k9, nxN hk]
      have eM : f205 0 (nI k) t = (if t.1 1132 13 = 0 then some (0, t) else if nI k = 9 then some (t.1 y 16, t) else if nI k = 10 then some (t.1 y 27, t) else if zin? (nI k) 9 = true then some (t.1 (y + 4) k, t) else none) := by
        unfold f205
        rw [if_neg w1, if_neg w2, r11, grd k12, grd k12, grd k12, nxN hk]
      rcases hT with ⟨-, q2, e1, e2, e3⟩ | ⟨q2, hX⟩
      · refine fin 0 ?_ (by rw [eM, if_pos q2])
        rw [eC]
        by_cases u9 : nI k = 9
        · rw [if_pos u9, e2]
        · by_cases u10 : nI k = 10
          · rw [if_neg u9, if_pos u10, e3]
          · have k9' : k < 9 := by
              rcases Nat.lt_or_ge k 9 with u | u
              · exact u
              · rcases (show k = 9 ∨ k = 10 by omega) with e | e
                · exact absurd (by rw [e]; rfl) u9
                · exact absurd (by rw [e]; rfl) u10
            rw [if_neg u9, if_neg u10, if_pos ((zinN hk).mpr k9'), e1 k k9']
      · obtain ⟨⟨n1, -, ⟨s9, t16, -, s10, -⟩, -⟩, -⟩ := hX
        have q2' : ¬ t.1 1132 13 = 0 := by rw [q2]; decide
        rw [if_neg q2'] at eM
        by_cases u9 : nI k = 9
        · rw [if_pos u9] at eC eM
          exact fin (nI (G 0 0)) (by rw [eC, s9]) (by rw [eM, t16])
        · by_cases u10 : nI k = 10
          · rw [if_neg u9, if_pos u10] at eC eM
            exact fin (t.1 y 27) (by rw [eC, s10]) eM
          · have k9' : k < 9 := by
              rcases Nat.lt_or_ge k 9 with u | u
              · exact u
              · rcases (show k = 9 ∨ k = 10 by omega) with e | e
                · exact absurd (by rw [e]; rfl) u9
                · exact absurd (by rw [e]; rfl) u10
            rw [if_neg u9, if_neg u10, if_pos ((zinN hk).mpr k9')] at eC eM
            exact fin (nI (G 6 k)) (by rw [eC, (n1 k k9').1]) (by rw [eM, (n1 k k9').2.1])
end ZDD
