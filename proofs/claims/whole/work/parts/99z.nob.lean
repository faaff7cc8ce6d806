/-! where nobody can have what it waits for: serving does nothing; starts and gos let it be so -/
section ZCG
variable {G W W2 : Nat → Nat → Nat} {F F2 : Nat → Nat → Nat → Nat} {B C C2 x y n i j o : Nat} {s t s2 t2 : zσ}
theorem serve_0 (hn : 1000 ≤ n) (h : RUN G F W B C x y s t) (hN : Nob n x s) : f132 n s = some s ∧ f226 n t = some t := by
  have h88 := (h.2.1.1.1 8 (by decide)).2.2
  obtain ⟨m, rfl⟩ : ∃ m, n = m + 1 := ⟨n - 1, by omega⟩
  obtain ⟨b, b1, b2⟩ := c_pick (r2 := f132_2 (m + 1) m) (x1 := 0) hn h (G 6 8) 0 (m + 1) none (by omega) (by omega) (fun k hk => by omega)
  obtain ⟨v, v1, v2⟩ := m_227 (ov := none) hn h (fun v e => by cases e)
  constructor
  · unfold f132
    rw [f132_2, if_neg (by decide)]
    cases b with
    | none => exact b2
    | some b => exact absurd b1.2.2.1 (hN b (by have := b1.1; omega) b1.2.1)
  · unfold f226
    rw [← enc_n, v2, gy1]
    rcases m_loop hn h 8 (m + 1) v (fun v' e => by
        subst e
        obtain ⟨u1, u2, u3⟩ := v1
        refine ⟨u1, u2.1, bhd_8, fun q hq w o => ?_⟩
        rcases u3 q hq ⟨w, fun v e => by cases e⟩ with e | e
        · rw [e] at o; exact absurd o zQ_irr
        · exact absurd e (zQ_as o)) (fun e => by
        subst e
        intro q hq w
        exact absurd ⟨w, fun v e => by cases e⟩ (v1 q hq)) (by omega) with ⟨-, r2⟩ | ⟨b', k2, r1, -, -⟩
    · exact r2
    · exact absurd r1.2.2.1 (hN b' (by have := r1.1; omega) r1.2.1)
theorem f109_st : ∀ (j : Nat) (X a c q : Int32), (∃ v, ∀ s' : zσ, f109_4 n j X a c q s' = some (v, s')) ∨ (∀ s' : zσ, f109_4 n j X a c q s' = none) := by
  intro j
  induction j with
  | zero => intro X a c q; exact Or.inr (fun s' => rfl)
  | succ j ih =>
    intro X a c q
    by_cases c1 : q < (4 : Int32)
    · by_cases c2 : ((X >>> (((4 : Int32) * q) &&& 31)) &&& (15 : Int32)) = (a + (1 : Int32))
      · rcases ih X a (c + 1) (q + 1) with ⟨v, hv⟩ | hv
        · exact Or.inl ⟨v, fun s' => by rw [f109_4, if_pos c1, if_pos c2]; exact hv s'⟩
        · exact Or.inr (fun s' => by rw [f109_4, if_pos c1, if_pos c2]; exact hv s')
      · rcases ih X a c (q + 1) with ⟨v, hv⟩ | hv
        · exact Or.inl ⟨v, fun s' => by rw [f109_4, if_pos c1, if_neg c2]; exact hv s'⟩
        · exact Or.inr (fun s' => by rw [f109_4, if_pos c1, if_neg c2]; exact hv s')
    · exact Or.inl ⟨c, fun s' => by rw [f109_4, if_neg c1]⟩
theorem f108_st (e : s2.1 1015 = s.1 1015) : ∀ (j : Nat) (X q : Int32), (∃ v, f108_2 n j X q s = some (v, s) ∧ f108_2 n j X q s2 = some (v, s2)) ∨ (f108_2 n j X q s = none ∧ f108_2 n j X q s2 = none) := by
  intro j
  induction j with
  | zero => intro X q; exact Or.inr ⟨rfl, rfl⟩
  | succ j ih =>
    intro X q
    rw [f108_2, f108_2]
    by_cases c1 : q < (4 : Int32)
    · rw [if_pos c1, if_pos c1]
      by_cases c2 : zin? q 4 = true
      · rw [if_pos c2, if_pos c2]
        rcases f109_st (n := n) n X q 0 0 with ⟨v, hv⟩ | hv
        · have h1 : f109 n X q s = some (v, s) := hv s
          have h2 : f109 n X q s2 = some (v, s2) := hv s2
          rw [h1, h2, gy1, gy1, e]
          by_cases c3 : s.1 1015 (nx q) < v
          · rw [if_pos c3, if_pos c3]
            exact Or.inl ⟨0, rfl, rfl⟩
          · rw [if_neg c3, if_neg c3]
            exact ih X (q + 1)
        · have h1 : f109 n X q s = none := hv s
          have h2 : f109 n X q s2 = none := hv s2
          rw [h1, h2]
          exact Or.inr ⟨rfl, rfl⟩
      · rw [if_neg c2, if_neg c2]
        exact Or.inr ⟨rfl, rfl⟩
    · rw [if_neg c1, if_neg c1]
      exact Or.inl ⟨1, rfl, rfl⟩
/-- a step at task o that lets those that wait be as they are -/
theorem Nob_fr (hxx : x = 1060 ∨ x = 1096) (hN : Nob n x s) (ho : o < 8) (o1 : oC o s s2) (ow : wT o s2 ↔ wT o s) (ok : wT o s → (∀ k, k = 4 ∨ k = 10 ∨ k = 12 → s2.1 (1036 + 3 * o) k = s.1 (1036 + 3 * o) k) ∧ s2.1 (1036 + 3 * o + 1) = s.1 (1036 + 3 * o + 1)) : Nob n x s2 := by
  have wq : ∀ k, k < 8 → (wT k s2 ↔ wT k s) := by
    intro k hk
    by_cases e : k = o
    · rw [e]; exact ow
    · unfold wT
      rw [(oC_j ho hk e o1).1]
  have ck : ∀ k, k < 8 → wT k s → (∀ q, q = 4 ∨ q = 10 ∨ q = 12 → s2.1 (1036 + 3 * k) q = s.1 (1036 + 3 * k) q) ∧ s2.1 (1036 + 3 * k + 1) = s.1 (1036 + 3 * k + 1) := by
    intro k hk w
    by_cases e : k = o
    · subst e; exact ok w
    · have := oC_j ho hk e o1
      exact ⟨fun q _ => by rw [this.1], this.2.1⟩
  have g : ∀ a, (1011 ≤ a ∧ a ≤ 1022) ∨ 1060 ≤ a → s2.1 a = s.1 a := fun a ha => o1.2 a (by omega) (by omega) (by omega) (by omega) (by omega) (by omega) (by omega) (by omega)
  have qq : ∀ a b, a < 8 → b < 8 → wT a s → wT b s → zQ a b s → zQ a b s2 := by
    intro a b ha hb wa wb q
    unfold zQ at q ⊢
    rw [(ck a ha wa).1 4 (by omega), (ck a ha wa).1 12 (by omega), (ck b hb wb).1 4 (by omega), (ck b hb wb).1 12 (by omega)]
    exact q
  intro j hj w2 c
  have w := (wq j hj).mp w2
  have ez : zsq j s2 = zsq j s := by
    unfold zsq
    rw [(ck j hj w).1 10 (by omega), (ck j hj w).2]
  refine hN j hj w ?_
  unfold canP at c ⊢
  rw [ez, g (x + 20) (by omega), g (x + 21) (by omega), g 1016 (by omega), g 1019 (by omega)] at c
  have eb : ∀ b, bsum b s2 = bsum b s := fun b => by unfold bsum; rw [g 1017 (by omega)]
  rw [eb] at c
  rcases c with ⟨c1, c2⟩ | c | c | ⟨c1, c2, c3⟩
  · left
    refine ⟨c1, ?_⟩
    rcases f108_st (n := n) (g 1015 (by omega)) n (s.1 (x + 21) (zsq j s)) 0 with ⟨v, e1, e2⟩ | ⟨e1, e2⟩
    · have e2' : f108 n (s.1 (x + 21) (zsq j s)) s2 = some (v, s2) := e2
      rw [e2'] at c2
      have := (Prod.mk.inj (Option.some.inj c2)).1
      rw [this] at e1
      exact e1
    · have e2' : f108 n (s.1 (x + 21) (zsq j s)) s2 = none := e2
      rw [e2'] at c2
      exact absurd c2 (by simp)
  · exact Or.inr (Or.inl c)
  · exact Or.inr (Or.inr (Or.inl c))
  · refine Or.inr (Or.inr (Or.inr ⟨c1, c2, fun k hk q => c3 k hk ⟨?_, qq k j hk hj q.1.1 w q.2⟩⟩))
    obtain ⟨a1, a2, a3⟩ := q.1
    refine ⟨(wq k hk).mpr a1, ?_, ?_⟩
    · rw [g (x + 20) (by omega), (ck k hk a1).1 10 (by omega), (ck k hk a1).2]
      exact a2
    · rw [g (x + 21) (by omega), (ck k hk a1).1 10 (by omega), (ck k hk a1).2]
      exact a3
end ZCG
