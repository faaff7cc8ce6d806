/-! the next schedule that goes by time -/
section ZCM
variable {G W W2 : Nat → Nat → Nat} {F F2 : Nat → Nat → Nat → Nat} {B C C2 x y n i j o k v p D r : Nat} {s t s2 t2 : zσ}
/-- the schedule k goes by time -/
def tmS (k : Nat) (s : zσ) : Prop := ¬ s.1 1023 k < 0
theorem tmS_m (h : RUN G F W B C x y s t) (hk : k < 16) : (tmS k s → ∃ d e, d ≤ 1000000000 ∧ e ≤ 1000000000 ∧ s.1 1023 k = nI d ∧ s.1 1024 k = nI e ∧ t.1 1240 k = 1 ∧ t.1 1241 k = nI d ∧ t.1 1242 k = nI e ∧ t.1 1243 k = s.1 1025 k ∧ t.1 1244 k = -1 ∧ s.1 1026 k = -1 ∧ k < 2 * G 6 8 ∧ (e = 0 ∨ s.1 1007 14 + nI (G 22 0) ≤ nI d)) ∧ (¬ tmS k s → t.1 1240 k = 0 ∨ (t.1 1240 k = 1 ∧ ¬ t.1 1244 k = -1)) := by
  obtain ⟨-, -, -, p4, -, -⟩ := gP_of h
  unfold tmS
  rcases p4.1 k hk with ⟨q1, q2⟩ | ⟨q1, q2, q3, q4, q5, q6, q7⟩
  · rw [q1]
    exact ⟨fun q => absurd (by decide) q, fun _ => Or.inl q2⟩
  · rcases q7 with ⟨w1, d, e, w2, w3, w4, w5, w6⟩ | ⟨i, w1, w2, w3⟩
    · refine ⟨fun _ => ⟨d, e, w2, w3, w4, w5, q1, by rw [← q3, w4], by rw [← q4, w5], q5.symm, by rw [← q6, w1], w1, q2, w6⟩, fun q => absurd ?_ q⟩
      rw [w4]
      exact fun e => by have := (nltN (b := 0) (by omega) (by decide)).mp e; omega
    · rw [w3]
      refine ⟨fun q => absurd (by decide) q, fun _ => Or.inr ⟨q1, ?_⟩⟩
      rw [← q6, w2]
      exact fun e => (neqM (show i < 2 ^ 31 by omega)).mp e
/-- the first of them by time, among the first m -/
def Er (m : Nat) (s : zσ) : Option Nat → Prop
  | none => ∀ k, k < m → ¬ tmS k s
  | some b => b < m ∧ tmS b s ∧ ∀ k, k < m → tmS k s → ¬ s.1 1023 k < s.1 1023 b
theorem lt_nlt {a b c : Int32} (h1 : a < b) (h2 : ¬ c < b) : ¬ c < a := fun h => h2 (Int32.lt_trans h h1)
theorem early_L (h : RUN G F W B C x y s t) : ∀ m k fu fu2 (b : Option Nat), k + m = 16 → m < fu → m < fu2 → Er k s b → ∃ b', Er 16 s b' ∧ f85_4 n fu (enc b) (nI k) s = some (enc b', s) ∧ f223_4 n fu2 (enc b) (nI k) t = some (enc b', t) := by
  intro m
  induction m with
  | zero =>
    intro k fu fu2 b hk hf hf2 hb
    obtain ⟨fu, rfl⟩ : ∃ f0, fu = f0 + 1 := ⟨fu - 1, by omega⟩
    obtain ⟨fu2, rfl⟩ : ∃ f0, fu2 = f0 + 1 := ⟨fu2 - 1, by omega⟩
    have ek : k = 16 := by omega
    subst ek
    exact ⟨b, hb, by rw [f85_4, if_neg (by decide)], by rw [f223_4, if_neg (by decide)]⟩
  | succ m ih =>
    intro k fu fu2 b hk hf hf2 hb
    obtain ⟨fu, rfl⟩ : ∃ f0, fu = f0 + 1 := ⟨fu - 1, by omega⟩
    obtain ⟨fu2, rfl⟩ : ∃ f0, fu2 = f0 + 1 := ⟨fu2 - 1, by omega⟩
    have k16 : k < 16 := by omega
    have z16 : zin? (nI k) 16 = true := (zinN (by omega)).mpr k16
    have l16 : nI k < 16 := (nltN (b := 16) (by omega) (by decide)).mpr k16
    have l16' : nI k < Int32.ofNat 16 := l16
    have nk := nxN (show k < 2 ^ 31 by omega)
    obtain ⟨m1, m0⟩ := tmS_m h k16
    have e44 : ∀ p, f85_44 n (f85_4 n fu) p (nI k) s = f85_4 n fu p (nI (k + 1)) s := by
      intro p; unfold f85_44; rw [naddL]
    have e42 : f85_42 n (f85_4 n fu) (nI k) s = f85_4 n fu (nI k) (nI (k + 1)) s := e44 _
    have e51 : ∀ p, f223_51 n (f223_4 n fu2) p (nI k) t = f223_4 n fu2 p (nI (k + 1)) t := by
      intro p; unfold f223_51; rw [naddL]
    have e49 : f223_49 n (f223_4 n fu2) (nI k) t = f223_4 n fu2 (nI k) (nI (k + 1)) t := e51 _
    rw [f85_4, if_pos l16', f223_4, if_pos l16]
    simp only [if_pos z16, nk]
    by_cases w : tmS k s
    · obtain ⟨d, e, a1, a2, a3, a4, a5, a6, a7, a8, a9, a10, a11, a12⟩ := m1 w
      rw [if_neg w, if_neg (show ¬ t.1 1240 k = 0 by rw [a5]; decide), if_pos a9]
      cases b with
      | none =>
        rw [enc_n, if_pos rfl, if_pos rfl, e42, e49]
        refine ih (k + 1) fu fu2 (some k) (by omega) (by omega) (by omega) ⟨by omega, w, fun q hq wq => ?_⟩
        by_cases e : q = k
        · rw [e]; exact Int32.lt_irrefl
        · exact absurd wq (hb q (by omega))
      | some b0 =>
        obtain ⟨b1, b2, b3⟩ := id hb
        have nb : ¬ nI b0 = -1 := fun e => (neqM (show b0 < 2 ^ 31 by omega)).mp e
        have zb : zin? (nI b0) 16 = true := (zinN (by omega)).mpr (by omega)
        obtain ⟨d', e', c1, -, c3, -, -, c6, -⟩ := (tmS_m h (show b0 < 16 by omega)).1 b2
        rw [enc_s, if_neg nb, if_neg nb, if_pos zb, if_pos zb, nxN (show b0 < 2 ^ 31 by omega), a6, c6, ← a3, ← c3]
        by_cases q : s.1 1023 k < s.1 1023 b0
        · rw [if_pos q, if_pos q, e42, e49]
          refine ih (k + 1) fu fu2 (some k) (by omega) (by omega) (by omega) ⟨by omega, w, fun q' hq wq => ?_⟩
          by_cases e : q' = k
          · rw [e]; exact Int32.lt_irrefl
          · exact lt_nlt q (b3 q' (by omega) wq)
        · rw [if_neg q, if_neg q, e44, e51]
          refine ih (k + 1) fu fu2 (some b0) (by omega) (by omega) (by omega) ⟨by omega, b2, fun q' hq wq => ?_⟩
          by_cases e : q' = k
          · rw [e]; exact q
          · exact b3 q' (by omega) wq
    · have keep : ∃ b', Er 16 s b' ∧ f85_4 n fu (enc b) (nI (k + 1)) s = some (enc b', s) ∧ f223_4 n fu2 (enc b) (nI (k + 1)) t = some (enc b', t) := by
        refine ih (k + 1) fu fu2 b (by omega) (by omega) (by omega) ?_
        cases b with
        | none =>
          intro q hq wq
          by_cases e : q = k
          · subst e; exact w wq
          · exact hb q (by omega) wq
        | some b0 =>
          obtain ⟨b1, b2, b3⟩ := hb
          refine ⟨by omega, b2, fun q hq wq => ?_⟩
          by_cases e : q = k
          · subst e; exact absurd wq w
          · exact b3 q (by omega) wq
      have w' : s.1 1023 k < 0 := Classical.not_not.mp w
      rw [if_pos w', e44]
      rcases m0 w with q | ⟨q, q2⟩
      · rw [if_pos q, e51]; exact keep
      · rw [if_neg (show ¬ t.1 1240 k = 0 by rw [q]; decide), if_neg q2, e51]; exact keep
theorem early_ok (hn : 1000 ≤ n) (h : RUN G F W B C x y s t) : ∃ b, Er 16 s b ∧ f85 n s = some (enc b, s) ∧ f223 n t = some (enc b, t) := by
  obtain ⟨b, a1, a2, a3⟩ := early_L (n := n) h 16 0 n n none (by omega) (by omega) (by omega) (fun k hk => by omega)
  exact ⟨b, a1, a2, a3⟩
end ZCM
