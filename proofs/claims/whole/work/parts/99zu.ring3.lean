/-! rings: the answer -/
section ZDB
variable {G W W2 : Nat → Nat → Nat} {F F2 : Nat → Nat → Nat → Nat} {B C B2 C2 x y n i j o k v p D r N P g z q : Nat} {s t s2 t2 s' t' : zσ} {a b : Nat → Nat} {M : Nat → Int32} {K : Int32}
theorem sc35 (h2 : s2.2 = s.2) (h : ∀ a, a ≠ 1035 → s2.1 a = s.1 a) : scC s s2 := ⟨h2, fun a k _ q _ _ => by rw [h a q]⟩
/-- the class lays whom each waits for -/
theorem c_r1 (hn : 1000 ≤ n) (h : RUN G F W B C x y s t) (hM : ∀ j, j < 8 → f282 n (nI j) t = some (M j, t)) : ∀ m j fu (s' : zσ), s'.2 = s.2 → (∀ a, a ≠ 1035 → s'.1 a = s.1 a) → j + m = G 6 8 → m < fu → ∃ s2, f152_2 n fu K (nI j) s' = f152_34 n n K 0 s2 ∧ s2.2 = s.2 ∧ (∀ a, a ≠ 1035 → s2.1 a = s.1 a) ∧ (∀ i, j ≤ i → i < G 6 8 → s2.1 1035 i = M i) ∧ (∀ i, i < j → s2.1 1035 i = s'.1 1035 i) := by
  have h88 := (h.2.1.1.1 8 (by decide)).2.2
  have a12 : s.1 1007 12 = nI (G 6 8) := h.2.2.1.1.2.2.2.2.2.2.2.1
  have rt := h.1.2.2.2.2.2.2
  intro m
  induction m with
  | zero =>
    intro j fu s' e2 ag hj hf
    obtain ⟨fu, rfl⟩ : ∃ f0, fu = f0 + 1 := ⟨fu - 1, by omega⟩
    refine ⟨s', ?_, e2, ag, fun i i1 i2 => by omega, fun _ _ => rfl⟩
    rw [f152_2, ag 1007 (by decide), a12, show j = G 6 8 by omega, if_neg Int32.lt_irrefl]
  | succ m ih =>
    intro j fu s' e2 ag hj hf
    obtain ⟨fu, rfl⟩ : ∃ f0, fu = f0 + 1 := ⟨fu - 1, by omega⟩
    have hj8 : j < 8 := by omega
    have z8 : zin? (nI j) 8 = true := (zinN (by omega)).mpr hj8
    have nj := nxN (show j < 2 ^ 31 by omega)
    have h' : RUN G F W B C x y s' t := RUNx_sc (s := s) (t := t) (sc35 e2 ag) scM_rf h
    obtain ⟨mm, g1, g2⟩ := edge_ok hn h' hj8
    have em : mm = M j := by
      rw [hM j hj8] at g2
      exact ((Prod.mk.inj (Option.some.inj g2)).1).symm
    rw [em] at g1
    obtain ⟨s2, b1, b2, b3, b4, b5⟩ := ih (j + 1) fu (sI s' 1035 j (M j)) e2 (fun a ha => by rw [hIo ha]; exact ag a ha) (by omega) (by omega)
    refine ⟨s2, ?_, b2, b3, fun i i1 i2 => ?_, fun i hi => by rw [b5 i (by omega), hIk (by omega)]⟩
    · rw [f152_2, ag 1007 (by decide), a12, if_pos ((nltN (by omega) (by omega)).mpr (by omega)), if_pos z8, nj, show s'.2.2 1008 j = some (1036 + 3 * j) by rw [e2]; exact rt j hj8, grd (gck8 hj8), g1, gy1, if_pos z8, zlet, naddL, b1]
    · by_cases e : i = j
      · subst e
        rw [b5 i (by omega), hIe]
      · exact b4 i (by omega) i2
/-- one round of Warshall -/
theorem c_r2 {r34 : Int32 → Int32 → zσ → Option (Int32 × zσ)} {R : Nat → Int32} (h88 : G 6 8 ≤ 8) (hk : k < G 6 8) : ∀ m i fu (s' : zσ), s'.1 1007 12 = nI (G 6 8) → (∀ i', i' < i → i' < G 6 8 → s'.1 1035 i' = wst R k i') → (∀ i', i ≤ i' → i' < G 6 8 → s'.1 1035 i' = R i') → i + m = G 6 8 → m < fu → ∃ s2, f152_44 n r34 fu K (nI k) (nI i) s' = r34 K (nI (k + 1)) s2 ∧ s2.2 = s'.2 ∧ (∀ a, a ≠ 1035 → s2.1 a = s'.1 a) ∧ (∀ i', i' < G 6 8 → s2.1 1035 i' = wst R k i') := by
  intro m
  induction m with
  | zero =>
    intro i fu s' a12 h1 h2 hi hf
    obtain ⟨fu, rfl⟩ : ∃ f0, fu = f0 + 1 := ⟨fu - 1, by omega⟩
    refine ⟨s', ?_, rfl, fun _ _ => rfl, fun i' hi' => h1 i' (by omega) hi'⟩
    rw [f152_44, a12, show i = G 6 8 by omega, if_neg Int32.lt_irrefl, naddL]
  | succ m ih =>
    intro i fu s' a12 h1 h2 hi hf
    obtain ⟨fu, rfl⟩ : ∃ f0, fu = f0 + 1 := ⟨fu - 1, by omega⟩
    have z8 : zin? (nI i) 8 = true := (zinN (by omega)).mpr (by omega)
    have zk : zin? (nI k) 8 = true := (zinN (by omega)).mpr (by omega)
    have ni := nxN (show i < 2 ^ 31 by omega)
    have nk := nxN (show k < 2 ^ 31 by omega)
    have Ri : s'.1 1035 i = R i := h2 i (Nat.le_refl _) (by omega)
    have Rk : s'.1 1035 k = R k := by
      rcases Nat.lt_or_ge k i with w | w
      · rw [h1 k w hk]
        unfold wst
        split
        · exact i_oro _
        · rfl
      · exact h2 k w hk
    have e81 : ∀ u : zσ, f152_81 n r34 (f152_44 n r34 fu) K (nI k) (nI i) u = f152_44 n r34 fu K (nI k) (nI (i + 1)) u := by
      intro u; unfold f152_81; rw [naddL]
    have e0 : f152_44 n r34 (fu + 1) K (nI k) (nI i) s' = (if ((R i >>> (nI k &&& 31)) &&& (1 : Int32)) = 1 then f152_44 n r34 fu K (nI k) (nI (i + 1)) (sI s' 1035 i (R i ||| R k)) else f152_44 n r34 fu K (nI k) (nI (i + 1)) s') := by
      rw [f152_44, a12, if_pos ((nltN (by omega) (by omega)).mpr (by omega))]
      simp only [if_pos z8, if_pos zk, ni, nk, Ri, Rk, zlet, e81]
    rw [e0]
    by_cases w : ((R i >>> (nI k &&& 31)) &&& (1 : Int32)) = 1
    · rw [if_pos w]
      obtain ⟨s2, b1, b2, b3, b4⟩ := ih (i + 1) fu (sI s' 1035 i (R i ||| R k)) (by rw [hIo (by decide)]; exact a12) (fun i' l1 l2 => by
        by_cases e : i' = i
        · subst e
          rw [hIe]
          unfold wst
          rw [if_pos w]
        · rw [hIk e]; exact h1 i' (by omega) l2) (fun i' l1 l2 => by rw [hIk (by omega)]; exact h2 i' (by omega) l2) (by omega) (by omega)
      exact ⟨s2, b1, b2, fun a ha => by rw [b3 a ha, hIo ha], b4⟩
    · rw [if_neg w]
      exact ih (i + 1) fu s' a12 (fun i' l1 l2 => by
        by_cases e : i' = i
        · subst e
          rw [Ri]
          unfold wst
          rw [if_neg w]
        · exact h1 i' (by omega) l2) (fun i' l1 l2 => h2 i' (by omega) l2) (by omega) (by omega)
theorem c_r3 (hn : 1000 ≤ n) (h88 : G 6 8 ≤ 8) : ∀ m k fu (s' : zσ), s'.1 1007 12 = nI (G 6 8) → Wk M (G 6 8) k (s'.1 1035) → k + m = G 6 8 → m < fu → ∃ s2, f152_34 n fu K (nI k) s' = f152_97 n n K 0 0 s2 ∧ s2.2 = s'.2 ∧ (∀ a, a ≠ 1035 → s2.1 a = s'.1 a) ∧ Wk M (G 6 8) (G 6 8) (s2.1 1035) := by
  intro m
  induction m with
  | zero =>
    intro k fu s' a12 hW hk hf
    obtain ⟨fu, rfl⟩ : ∃ f0, fu = f0 + 1 := ⟨fu - 1, by omega⟩
    have ek : k = G 6 8 := by omega
    rw [ek] at hW
    refine ⟨s', ?_, rfl, fun _ _ => rfl, hW⟩
    rw [f152_34, a12, ek, if_neg Int32.lt_irrefl]
  | succ m ih =>
    intro k fu s' a12 hW hk hf
    obtain ⟨fu, rfl⟩ : ∃ f0, fu = f0 + 1 := ⟨fu - 1, by omega⟩
    obtain ⟨s1, a1, a2, a3, a4⟩ := c_r2 (n := n) (K := K) (r34 := f152_34 n fu) (R := s'.1 1035) h88 (show k < G 6 8 by omega) (G 6 8) 0 n s' a12 (fun i' l => by omega) (fun _ _ _ => rfl) (Nat.zero_add _) (by omega)
    obtain ⟨s2, b1, b2, b3, b4⟩ := ih (k + 1) fu s1 (by rw [a3 1007 (by decide)]; exact a12) (Wk_s h88 (by omega) hW a4) (by omega) (by omega)
    refine ⟨s2, ?_, b2.trans a2, fun a ha => (b3 a ha).trans (a3 a ha), b4⟩
    rw [f152_34, a12, if_pos ((nltN (by omega) (by omega)).mpr (by omega))]
    have a1' : f152_44 n (f152_34 n fu) n K (nI k) 0 s' = _ := a1
    rw [a1', b1]
/-- one round of the reference -/
theorem m_r1 {r14 : Int32 → Int32 → zσ → Option (Int32 × zσ)} {r32 : Int32 → Int32 → Int32 → Int32 → zσ → Option (Int32 × zσ)} {x2 x3 x5 : Int32} (h : RUN G F W B C x y s t) (hM : ∀ j, j < 8 → f282 n (nI j) t = some (M j, t)) : ∀ m j fu (X : Int32), j + m = G 6 8 → m < fu → ∃ X2, f281_42 n r14 r32 fu x2 x3 X x5 (nI j) t = r32 x2 x3 X2 (x5 + 1) t ∧ (∀ b, b < 8 → bt X b → bt X2 b) ∧ (∀ i, j ≤ i → i < G 6 8 → bt X i → ∀ b, b < 8 → bt (M i) b → bt X2 b) ∧ (∀ Z : Nat → Prop, (∀ b, b < 8 → bt X b → Z b) → (∀ i, i < G 6 8 → Z i → ∀ b, b < 8 → bt (M i) b → Z b) → ∀ b, b < 8 → bt X2 b → Z b) := by
  have h88 := (h.2.1.1.1 8 (by decide)).2.2
  intro m
  induction m with
  | zero =>
    intro j fu X hj hf
    obtain ⟨fu, rfl⟩ : ∃ f0, fu = f0 + 1 := ⟨fu - 1, by omega⟩
    refine ⟨X, ?_, fun b _ w => w, fun i i1 i2 => by omega, fun Z h1 _ b hb w => h1 b hb w⟩
    rw [f281_42, m_209 h, gy1, show j = G 6 8 by omega, if_neg Int32.lt_irrefl]
  | succ m ih =>
    intro j fu X hj hf
    obtain ⟨fu, rfl⟩ : ∃ f0, fu = f0 + 1 := ⟨fu - 1, by omega⟩
    have e74 : ∀ (a b : Int32), f281_74 n r14 r32 (f281_42 n r14 r32 fu) x2 x3 x5 (nI j) a b t = f281_42 n r14 r32 fu x2 x3 (b ||| a) x5 (nI (j + 1)) t := by
      intro a b; unfold f281_74; rw [zlet, naddL]
    rw [f281_42, m_209 h, gy1, if_pos ((nltN (by omega) (by omega)).mpr (by omega)), hM j (by omega), gy1, e74, e74, i_or0]
    by_cases w : ((X >>> (nI j &&& 31)) &&& (1 : Int32)) = 1
    · rw [if_pos w]
      have w' : bt X j := w
      obtain ⟨X2, b1, b2, b3, b4⟩ := ih (j + 1) fu (X ||| M j) (by omega) (by omega)
      refine ⟨X2, b1, fun b hb u => b2 b hb ((bt_or hb).mpr (Or.inl u)), fun i i1 i2 u b hb ub => ?_, fun Z h1 h2 => b4 Z (fun b hb u => ?_) h2⟩
      · by_cases e : i = j
        · subst e
          exact b2 b hb ((bt_or hb).mpr (Or.inr ub))
        · exact b3 i (by omega) i2 ((bt_or (by omega)).mpr (Or.inl u)) b hb ub
      · rcases (bt_or hb).mp u with u | u
        · exact h1 b hb u
        · exact h2 j (by omega) (h1 j (by omega) w') b hb u
    · rw [if_neg w]
      have w' : ¬ bt X j := w
      obtain ⟨X2, b1, b2, b3, b4⟩ := ih (j + 1) fu X (by omega) (by omega)
      refine ⟨X2, b1, b2, fun i i1 i2 u b hb ub => ?_, b4⟩
      by_cases e : i = j
      · subst e; exact absurd u w'
      · exact b3 i (by omega) i2 u b hb ub
/-- how many are in a set -/
def bcn (N : Nat) (X : Int32) : Nat := zct (fun j => decide (((X >>> (nI j &&& 31)) &&& (1 : Int32)) = 1)) N 0
theorem bcn_up {X X2 : Int32} (hN : N ≤ 8) (h1 : ∀ b, b < 8 → bt X b → bt X2 b) (h2 : ∀ i, i < N → bt X i → ∀ b, b < 8 → bt (M i) b → bt X2 b) : cls M N X2 ∨ bcn N X < bcn N X2 := by
  by_cases w : ∀ j, j < N → bt X2 j → bt X j
  · left
    intro i hi u j hj v
    exact h2 i hi (w i hi u) j (by omega) v
  · right
    have w1 : ∃ j, j < N ∧ bt X2 j ∧ ¬ bt X j := by
      apply Classical.byContradiction
      intro c
      exact w (fun j hj u => Classical.byContradiction (fun v => c ⟨j, hj, u, v⟩))
    obtain ⟨j, hj, u, v⟩ := w1
    refine zct_lt (e := j) N 0 (fun i _ hi q => ?_) (Nat.zero_le _) (by omega) (fun q => v (by have q1 := of_decide_eq_true q; exact q1)) (decide_eq_true (show ((X2 >>> (nI j &&& 31)) &&& (1 : Int32)) = 1 from u))
    have q1 := of_decide_eq_true q
    have q2 : bt X2 i := h1 i (by omega) q1
    exact decide_eq_true (show ((X2 >>> (nI i &&& 31)) &&& (1 : Int32)) = 1 from q2)
theorem m_r2 {r14 : Int32 → Int32 → zσ → Option (Int32 × zσ)} {x2 x3 : Int32} (hn : 1000 ≤ n) (h : RUN G F W B C x y s t) (hM : ∀ j, j < 8 → f282 n (nI j) t = some (M j, t)) : ∀ m r fu (X : Int32), r + m = 8 → m < fu → (cls M (G 6 8) X ∨ r ≤ bcn (G 6 8) X) → ∃ X2, f281_32 n r14 fu x2 x3 X (nI r) t = (if ((X2 >>> (x3 &&& 31)) &&& (1 : Int32)) = 1 then if x2 = 0 then some (x3, t) else f281_108 n r14 (x2 + (-1 : Int32)) x3 t else f281_108 n r14 x2 x3 t) ∧ (∀ b, b < 8 → bt X b → bt X2 b) ∧ cls M (G 6 8) X2 ∧ (∀ Z : Nat → Prop, (∀ b, b < 8 → bt X b → Z b) → (∀ i, i < G 6 8 → Z i → ∀ b, b < 8 → bt (M i) b → Z b) → ∀ b, b < 8 → bt X2 b → Z b) := by
  have h88 := (h.2.1.1.1 8 (by decide)).2.2
  intro m
  induction m with
  | zero =>
    intro r fu X hr hf hc
    obtain ⟨fu, rfl⟩ : ∃ f0, fu = f0 + 1 := ⟨fu - 1, by omega⟩
    refine ⟨X, ?_, fun b _ w => w, ?_, fun Z h1 _ b hb w => h1 b hb w⟩
    · rw [f281_32, show r = 8 by omega, if_neg (by decide)]
    · rcases hc with hc | hc
      · exact hc
      · intro i hi u j hj v
        have all : ∀ j, j < G 6 8 → bt X j := by
          intro j hj
          apply Classical.byContradiction
          intro w
          have := zct_lt (P := fun j => decide (((X >>> (nI j &&& 31)) &&& (1 : Int32)) = 1)) (Q := fun _ => true) (e := j) (G 6 8) 0 (fun _ _ _ _ => rfl) (Nat.zero_le _) (by omega) (fun q => w (by have q1 := of_decide_eq_true q; exact q1)) rfl
          rw [zct_tr] at this
          have e : bcn (G 6 8) X < G 6 8 := this
          omega
        exact all j hj
  | succ m ih =>
    intro r fu X hr hf hc
    obtain ⟨fu, rfl⟩ : ∃ f0, fu = f0 + 1 := ⟨fu - 1, by omega⟩
    obtain ⟨X1, a1, a2, a3, a4⟩ := m_r1 (n := n) (r14 := r14) (r32 := f281_32 n r14 fu) (x2 := x2) (x3 := x3) (x5 := nI r) h hM (G 6 8) 0 n X (Nat.zero_add _) (by omega)
    have a3' : ∀ i, i < G 6 8 → bt X i → ∀ b, b < 8 → bt (M i) b → bt X1 b := fun i hi => a3 i (Nat.zero_le _) hi
    obtain ⟨X2, b1, b2, b3, b4⟩ := ih (r + 1) fu X1 (by omega) (by omega) (by
      rcases bcn_up (M := M) h88 a2 a3' with c | c
      · exact Or.inl c
      · rcases hc with hc | hc
        · left
          have keep : ∀ b, b < G 6 8 → bt X1 b → bt X b := fun b hb u => by
            have := a4 (fun b => b < G 6 8 → bt X b) (fun b _ u _ => u) (fun i hi hz b hb ub hbN => hc i hi (hz hi) b hbN ub) b (by omega) u
            exact this hb
          intro i hi u j hj v
          exact a3' i hi (keep i hi u) j (by omega) v
        · right; omega)
    refine ⟨X2, ?_, fun b hb u => b2 b hb (a2 b hb u), b3, fun Z h1 h2 => b4 Z (a4 Z h1 h2) h2⟩
    rw [f281_32, if_pos (show nI r < 8 from (nltN (b := 8) (by omega) (by decide)).mpr (by omega))]
    have a1' : f281_42 n r14 (f281_32 n r14 fu) n x2 x3 X (nI r) 0 t = _ := a1
    rw [a1', naddL, b1]
/-- both tell the same -/
theorem ring_j (hn : 1000 ≤ n) (h : RUN G F W B C x y s t) (hM : ∀ j, j < 8 → f282 n (nI j) t = some (M j, t)) {R : Nat → Int32} (hW : Wk M (G 6 8) (G 6 8) R) (a12 : s'.1 1007 12 = nI (G 6 8)) (hR : s'.1 1035 = R) : ∀ m i c fu fu2, i + m = G 6 8 → m < fu → m < fu2 → ∃ v, f152_97 n fu K (nI c) (nI i) s' = some (v, s') ∧ f281_14 n fu2 (K - nI c) (nI i) t = some (v, t) := by
  have h88 := (h.2.1.1.1 8 (by decide)).2.2
  intro m
  induction m with
  | zero =>
    intro i c fu fu2 hi hf hf2
    obtain ⟨fu, rfl⟩ : ∃ f0, fu = f0 + 1 := ⟨fu - 1, by omega⟩
    obtain ⟨fu2, rfl⟩ : ∃ f0, fu2 = f0 + 1 := ⟨fu2 - 1, by omega⟩
    refine ⟨-1, ?_, ?_⟩
    · rw [f152_97, a12, show i = G 6 8 by omega, if_neg Int32.lt_irrefl]
    · rw [f281_14, m_209 h, gy1, show i = G 6 8 by omega, if_neg Int32.lt_irrefl]
  | succ m ih =>
    intro i c fu fu2 hi hf hf2
    obtain ⟨fu, rfl⟩ : ∃ f0, fu = f0 + 1 := ⟨fu - 1, by omega⟩
    obtain ⟨fu2, rfl⟩ : ∃ f0, fu2 = f0 + 1 := ⟨fu2 - 1, by omega⟩
    have hiN : i < G 6 8 := by omega
    have z8 : zin? (nI i) 8 = true := (zinN (by omega)).mpr (by omega)
    have ni := nxN (show i < 2 ^ 31 by omega)
    have li : nI i < nI (G 6 8) := (nltN (by omega) (by omega)).mpr (by omega)
    obtain ⟨X, x1, x2, x3, x4⟩ := m_r2 (n := n) (r14 := f281_14 n fu2) (x2 := K - nI c) (x3 := nI i) hn h hM 8 0 n (M i) (by omega) (by omega) (Or.inr (Nat.zero_le _))
    obtain ⟨w1, w2, w3⟩ := hW
    have same : bt (R i) i ↔ bt X i := by
      constructor
      · intro u
        exact w3 X i hiN x3 (fun j hj v => x2 j (by omega) v) i i hiN hiN u (Or.inl rfl)
      · intro u
        exact x4 (fun b => bt (R i) b) (fun b hb v => w1 i b hiN hb v) (fun k hk v b hb ub => w2 k i b hk hiN hb v (w1 k b hk hb ub)) i (by omega) u
    have e129 : ∀ c, f152_129 n (f152_97 n fu) K c (nI i) s' = f152_97 n fu K c (nI (i + 1)) s' := by
      intro c; unfold f152_129; rw [naddL]
    have e108 : ∀ c, f281_108 n (f281_14 n fu2) c (nI i) t = f281_14 n fu2 c (nI (i + 1)) t := by
      intro c; unfold f281_108; rw [naddL]
    have eC : f152_97 n (fu + 1) K (nI c) (nI i) s' = (if ((R i >>> (nI i &&& 31)) &&& (1 : Int32)) = 1 then if nI c = K then some (nI i, s') else f152_97 n fu K (nI (c + 1)) (nI (i + 1)) s' else f152_97 n fu K (nI c) (nI (i + 1)) s') := by
      rw [f152_97, a12, if_pos li, if_pos z8, ni, hR, naddL, e129, e129]
    have x1' : f281_32 n (f281_14 n fu2) n (K - nI c) (nI i) (M i) 0 t = _ := x1
    have eM : f281_14 n (fu2 + 1) (K - nI c) (nI i) t = (if ((X >>> (nI i &&& 31)) &&& (1 : Int32)) = 1 then if nI c = K then some (nI i, t) else f281_14 n fu2 (K - nI (c + 1)) (nI (i + 1)) t else f281_14 n fu2 (K - nI c) (nI (i + 1)) t) := by
      rw [f281_14, m_209 h, gy1, if_pos li, hM i (by omega), gy1, x1', e108, e108, i_sub1]
      simp only [i_sub0]
    rw [eC, eM]
    by_cases u : ((R i >>> (nI i &&& 31)) &&& (1 : Int32)) = 1
    · have u2 : ((X >>> (nI i &&& 31)) &&& (1 : Int32)) = 1 := same.mp u
      rw [if_pos u, if_pos u2]
      by_cases v : nI c = K
      · rw [if_pos v, if_pos v]
        exact ⟨_, rfl, rfl⟩
      · rw [if_neg v, if_neg v]
        exact ih (i + 1) (c + 1) fu fu2 (by omega) (by omega) (by omega)
    · have u2 : ¬ ((X >>> (nI i &&& 31)) &&& (1 : Int32)) = 1 := fun v => u (same.mpr v)
      rw [if_neg u, if_neg u2]
      exact ih (i + 1) c fu fu2 (by omega) (by omega) (by omega)
theorem ring_ok (hn : 1000 ≤ n) (h : eR (Gh G a b 0) W F B C x y s t) (hN : Nob n x s) (q : Int32) : aft G B C x y n (f151 n q) (f281 n q) s t := by
  obtain ⟨hr, hr2, hx, hR⟩ := h
  have h88 : G 6 8 ≤ 8 := (hR.2.1.1.1 8 (by decide)).2.2
  have hxx := hR.1.1
  have nr : ¬ s.1 1007 11 = 0 := by rw [hr]; decide
  have nr2 : ¬ t.1 1132 17 = 0 := by rw [hr2]; decide
  have a12 : s.1 1007 12 = nI (Gh G a b 0 6 8) := hR.2.2.1.1.2.2.2.2.2.2.2.1
  have H : ∀ j, ∃ m, j < 8 → f282 n (nI j) t = some (m, t) := by
    intro j
    by_cases hj : j < 8
    · obtain ⟨m, -, g⟩ := edge_ok hn hR hj
      exact ⟨m, fun _ => g⟩
    · exact ⟨0, fun w => absurd w hj⟩
  obtain ⟨M, hM⟩ : ∃ M : Nat → Int32, ∀ j, j < 8 → f282 n (nI j) t = some (M j, t) := ⟨fun j => (H j).choose, fun j => (H j).choose_spec⟩
  obtain ⟨s1, b1, b2, b3, b4, -⟩ := c_r1 (K := q) hn hR hM (G 6 8) 0 n s rfl (fun _ _ => rfl) (Nat.zero_add _) (by omega)
  have W0 : Wk M (G 6 8) 0 (s1.1 1035) := by
    obtain ⟨w1, w2, w3⟩ := Wk_0 (M := M) h88
    refine ⟨fun i j hi hj u => by rw [b4 i (Nat.zero_le _) hi]; exact w1 i j hi hj u, fun k' i j hk => by omega, fun X a ha hX hM' i j hi hj u v => ?_⟩
    rw [b4 i (Nat.zero_le _) hi] at u
    exact w3 X a ha hX hM' i j hi hj u v
  obtain ⟨s2, c1, c2, c3, c4⟩ := c_r3 (G := G) (n := n) (K := q) hn h88 (G 6 8) 0 n s1 (by rw [b3 1007 (by decide)]; exact a12) W0 (Nat.zero_add _) (by omega)
  have ag : ∀ a, a ≠ 1035 → s2.1 a = s.1 a := fun a ha => (c3 a ha).trans (b3 a ha)
  have h2 : RUN (Gh G a b 0) F W B C x y s2 t := RUNx_sc (s := s) (t := t) (sc35 (c2.trans b2) ag) scM_rf hR
  obtain ⟨v, e1, e2⟩ := ring_j (K := q) (s' := s2) hn hR hM c4 (by rw [ag 1007 (by decide)]; exact a12) rfl (G 6 8) 0 0 n n (Nat.zero_add _) (by omega) (by omega)
  refine ⟨v, s2, t, F, W, B, C, a, b, ?_, ?_, h2, Nob_ag hxx hN (fun a ha => ag a (by omega)), by omega, by omega⟩
  · unfold f151 f152
    have b1' : f152_2 n n q 0 s = f152_34 n n q 0 s1 := b1
    have c1' : f152_34 n n q 0 s1 = f152_97 n n q 0 0 s2 := c1
    have e1' : f152_97 n n q 0 0 s2 = some (v, s2) := e1
    rw [if_neg nr, b1', c1', e1', gy1]
  · unfold f281
    rw [if_neg nr2]
    rw [show q - nI 0 = q by rw [show nI 0 = (0 : Int32) from rfl, Int32.sub_zero]] at e2
    exact e2
end ZDB
