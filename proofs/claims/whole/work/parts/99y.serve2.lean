/-! those that wait are served: the reference's search, both loops -/
section ZCF
variable {G W : Nat → Nat → Nat} {F : Nat → Nat → Nat → Nat} {B C x y n i j : Nat} {s t : zσ}
def enc : Option Nat → Int32
  | none => -1
  | some v => nI v
theorem enc_n : enc none = -1 := rfl
theorem enc_s {v : Nat} : enc (some v) = nI v := rfl
/-- task k waits, and comes behind that of ov -/
def eP (ov : Option Nat) (k : Nat) (s : zσ) : Prop := wT k s ∧ ∀ v, ov = some v → zQ v k s
/-- the first of these among the first m tasks -/
def Mn (ov : Option Nat) (m : Nat) (s : zσ) : Option Nat → Prop
  | none => ∀ k, k < m → ¬ eP ov k s
  | some b => b < m ∧ eP ov b s ∧ ∀ k, k < m → eP ov k s → k = b ∨ zQ b k s
theorem m_pick {ov : Option Nat} (h : RUN G F W B C x y s t) (hv : ∀ v, ov = some v → v < 8 ∧ wT v s) : ∀ m j k (b : Option Nat), j + m = G 6 8 → m < k → Mn ov j s b → ∃ b', Mn ov (G 6 8) s b' ∧ f227_4 n k (enc ov) (enc b) (nI j) t = some (enc b', t) := by
  have h88 := (h.2.1.1.1 8 (by decide)).2.2
  intro m
  induction m with
  | zero =>
    intro j k b hj hk hb
    obtain ⟨k, rfl⟩ : ∃ k0, k = k0 + 1 := ⟨k - 1, by omega⟩
    have ej : j = G 6 8 := by omega
    subst ej
    exact ⟨b, hb, by rw [f227_4, m_209 h, gy1, if_neg Int32.lt_irrefl]⟩
  | succ m ih =>
    intro j k b hj hk hb
    obtain ⟨k, rfl⟩ : ∃ k0, k = k0 + 1 := ⟨k - 1, by omega⟩
    have hj8 : j < 8 := by omega
    obtain ⟨m1, m0⟩ := m_228 (n := n) h hj8
    have e50 : ∀ p, f227_50 n (f227_4 n k) (enc ov) p (nI j) t = f227_4 n k (enc ov) p (nI (j + 1)) t := by
      intro p
      unfold f227_50
      rw [naddL]
    have e48 : f227_48 n (f227_4 n k) (enc ov) (nI j) t = f227_4 n k (enc ov) (nI j) (nI (j + 1)) t := by
      unfold f227_48
      exact e50 _
    have keep : (eP ov j s → ∃ b0, b = some b0 ∧ zQ b0 j s) → ∃ b', Mn ov (G 6 8) s b' ∧ f227_4 n k (enc ov) (enc b) (nI (j + 1)) t = some (enc b', t) := by
      intro hw
      refine ih (j + 1) k b (by omega) (by omega) ?_
      cases b with
      | none =>
        intro q hq w
        by_cases e : q = j
        · subst e
          obtain ⟨b0, e0, -⟩ := hw w
          cases e0
        · exact hb q (by omega) w
      | some b0 =>
        obtain ⟨b1, b2, b4⟩ := hb
        refine ⟨by omega, b2, fun q hq w => ?_⟩
        by_cases e : q = j
        · subst e
          obtain ⟨b5, e0, e1⟩ := hw w
          cases e0
          exact Or.inr e1
        · exact b4 q (by omega) w
    -- a task that may be taken
    have take : eP ov j s → ∃ b', Mn ov (G 6 8) s b' ∧ f227_34 n (f227_4 n k) (enc ov) (enc b) (nI j) t = some (enc b', t) := by
      intro w
      unfold f227_34
      cases b with
      | none =>
        rw [enc_n, if_pos rfl, e48]
        refine ih (j + 1) k (some j) (by omega) (by omega) ⟨by omega, w, fun q hq w' => ?_⟩
        by_cases e : q = j
        · exact Or.inl e
        · exact absurd w' (hb q (by omega))
      | some b0 =>
        obtain ⟨b1, b2, b4⟩ := id hb
        have nb : ¬ nI b0 = -1 := fun e => (neqM (show b0 < 2 ^ 31 by omega)).mp e
        rw [enc_s, if_neg nb]
        rcases ord_ok (n := n) h hj8 (show b0 < 8 by omega) w.1 b2.1 with ⟨o, -, o1⟩ | ⟨o, -, o1⟩
        · rw [o1, gy1, if_neg (by decide), e48]
          refine ih (j + 1) k (some j) (by omega) (by omega) ⟨by omega, w, fun q hq w' => ?_⟩
          by_cases e : q = j
          · exact Or.inl e
          · rcases b4 q (by omega) w' with e2 | e2
            · rw [e2]; exact Or.inr o
            · exact Or.inr (zQ_tr o e2)
        · rw [o1, gy1, if_pos rfl, e50]
          refine keep (fun _ => ⟨b0, rfl, ?_⟩)
          rcases zQ_tot h (show b0 < 8 by omega) hj8 b2.1 w.1 (by omega) with e | e
          · exact e
          · exact absurd e o
    rw [f227_4, m_209 h, gy1, if_pos ((nltN (by omega) (by omega)).mpr (by omega))]
    by_cases w : wT j s
    · rw [(m1 w).1, gy1, if_neg (by decide)]
      cases ov with
      | none =>
        rw [enc_n, if_pos rfl]
        exact take ⟨w, fun v e => by cases e⟩
      | some v =>
        obtain ⟨v1, v2⟩ := hv v rfl
        have nv : ¬ nI v = -1 := fun e => (neqM (show v < 2 ^ 31 by omega)).mp e
        rw [enc_s, if_neg nv]
        rcases ord_ok (n := n) h v1 hj8 v2 w with ⟨o, -, o1⟩ | ⟨o, -, o1⟩
        · rw [o1, gy1, if_neg (by decide)]
          exact take ⟨w, fun v' e => by cases e; exact o⟩
        · rw [o1, gy1, if_pos rfl]
          rw [enc_s] at e50
          rw [e50]
          exact keep (fun w' => absurd (w'.2 v rfl) o)
    · rw [(m0 w).1, gy1, if_pos rfl, e50]
      exact keep (fun w' => absurd w'.1 w)
theorem m_227 {ov : Option Nat} (hn : 1000 ≤ n) (h : RUN G F W B C x y s t) (hv : ∀ v, ov = some v → v < 8 ∧ wT v s) : ∃ b', Mn ov (G 6 8) s b' ∧ f227 n (enc ov) t = some (enc b', t) := by
  have h88 := (h.2.1.1.1 8 (by decide)).2.2
  exact m_pick (n := n) h hv (G 6 8) 0 n none (by omega) (by omega) (fun k hk => by omega)
/-- how many come behind v -/
def bhd (v : Nat) (s : zσ) : Nat := zct (fun k => decide ((s.1 (1036 + 3 * k) 3 = 3 ∨ s.1 (1036 + 3 * k) 3 = 4) ∧ (s.1 (1036 + 3 * v) 4 < s.1 (1036 + 3 * k) 4 ∨ (s.1 (1036 + 3 * v) 4 = s.1 (1036 + 3 * k) 4 ∧ s.1 (1036 + 3 * v) 12 < s.1 (1036 + 3 * k) 12)))) 8 0
theorem bhd_lt {v b : Nat} (hb : b < 8) (w : wT b s) (o : zQ v b s) : bhd b s < bhd v s := by
  refine zct_lt (e := b) 8 0 (fun k _ _ q => ?_) (Nat.zero_le _) (by omega) (fun q => ?_) ?_
  · have q1 := of_decide_eq_true q
    have q2 : wT k s ∧ zQ b k s := q1
    have q3 : wT k s ∧ zQ v k s := ⟨q2.1, zQ_tr o q2.2⟩
    exact decide_eq_true q3
  · have q1 := of_decide_eq_true q
    have q2 : wT b s ∧ zQ b b s := q1
    exact zQ_irr q2.2
  · have q3 : wT b s ∧ zQ v b s := ⟨w, o⟩
    exact decide_eq_true q3
/-- the reference grants to the first that can, or ends -/
theorem m_loop (hn : 1000 ≤ n) (h : RUN G F W B C x y s t) : ∀ m k (ov : Option Nat), (∀ v, ov = some v → v < G 6 8 ∧ wT v s ∧ bhd v s ≤ m ∧ ∀ q, q < G 6 8 → wT q s → zQ q v s → ¬ canP n x q s) → (ov = none → ∀ q, q < G 6 8 → wT q s → ¬ canP n x q s) → m + 1 < k → (Bst n x (G 6 8) s none ∧ f226_6 n k (enc ov) t = some t) ∨ (∃ b k', Bst n x (G 6 8) s (some b) ∧ k ≤ k' + m + 1 ∧ f226_6 n k (enc ov) t = yb0 (f235 n (nI b) t) fun u5 => yb1 (f227 n (-1 : Int32) u5) fun v7 u6 => f226_6 n k' v7 u6) := by
  have h88 := (h.2.1.1.1 8 (by decide)).2.2
  intro m
  induction m with
  | zero =>
    intro k ov hs hz hk
    obtain ⟨k, rfl⟩ : ∃ k0, k = k0 + 1 := ⟨k - 1, by omega⟩
    cases ov with
    | none => exact Or.inl ⟨hz rfl, by rw [enc_n, f226_6, if_pos rfl]⟩
    | some v =>
      obtain ⟨v1, v2, v3, v4⟩ := hs v rfl
      have nv : ¬ nI v = -1 := fun e => (neqM (show v < 2 ^ 31 by omega)).mp e
      rcases can_ok hn h (show v < 8 by omega) v2 with ⟨c0, -, c1⟩ | ⟨c0, -, c1⟩
      · refine Or.inr ⟨v, k, ⟨v1, v2, c0, fun q hq w c => ?_⟩, by omega, by rw [enc_s, f226_6, if_neg nv, c1, gy1, if_neg (by decide)]⟩
        by_cases e : q = v
        · exact Or.inl e
        · rcases zQ_tot h (show q < 8 by omega) (show v < 8 by omega) w v2 e with o | o
          · exact absurd c (v4 q hq w o)
          · exact Or.inr o
      · obtain ⟨b, b1, b2⟩ := m_227 (ov := some v) hn h (fun v' e => by cases e; exact ⟨by omega, v2⟩)
        obtain ⟨k, rfl⟩ : ∃ k0, k = k0 + 1 := ⟨k - 1, by omega⟩
        cases b with
        | none =>
          refine Or.inl ⟨fun q hq w c => ?_, by rw [enc_s, f226_6, if_neg nv, c1, gy1, if_pos rfl, ← enc_s, b2, gy1, enc_n, f226_6, if_pos rfl]⟩
          by_cases e : q = v
          · rw [e] at c; exact c0 c
          · rcases zQ_tot h (show q < 8 by omega) (show v < 8 by omega) w v2 e with o | o
            · exact v4 q hq w o c
            · exact b1 q hq ⟨w, fun v' e' => by cases e'; exact o⟩
        | some b =>
          obtain ⟨b3, b4, -⟩ := b1
          have := bhd_lt (show b < 8 by omega) b4.1 (b4.2 v rfl)
          omega
  | succ m ih =>
    intro k ov hs hz hk
    obtain ⟨k, rfl⟩ : ∃ k0, k = k0 + 1 := ⟨k - 1, by omega⟩
    cases ov with
    | none => exact Or.inl ⟨hz rfl, by rw [enc_n, f226_6, if_pos rfl]⟩
    | some v =>
      obtain ⟨v1, v2, v3, v4⟩ := hs v rfl
      have nv : ¬ nI v = -1 := fun e => (neqM (show v < 2 ^ 31 by omega)).mp e
      rcases can_ok hn h (show v < 8 by omega) v2 with ⟨c0, -, c1⟩ | ⟨c0, -, c1⟩
      · refine Or.inr ⟨v, k, ⟨v1, v2, c0, fun q hq w c => ?_⟩, by omega, by rw [enc_s, f226_6, if_neg nv, c1, gy1, if_neg (by decide)]⟩
        by_cases e : q = v
        · exact Or.inl e
        · rcases zQ_tot h (show q < 8 by omega) (show v < 8 by omega) w v2 e with o | o
          · exact absurd c (v4 q hq w o)
          · exact Or.inr o
      · obtain ⟨b, b1, b2⟩ := m_227 (ov := some v) hn h (fun v' e => by cases e; exact ⟨by omega, v2⟩)
        have e1 : f226_6 n (k + 1) (enc (some v)) t = f226_6 n k (enc b) t := by rw [enc_s, f226_6, if_neg nv, c1, gy1, if_pos rfl, ← enc_s, b2, gy1]
        rw [e1]
        have hA : ∀ v', b = some v' → v' < G 6 8 ∧ wT v' s ∧ bhd v' s ≤ m ∧ ∀ q, q < G 6 8 → wT q s → zQ q v' s → ¬ canP n x q s := by
          intro v' e
          subst e
          obtain ⟨b3, b4, b5⟩ := b1
          have l := bhd_lt (show v' < 8 by omega) b4.1 (b4.2 v rfl)
          refine ⟨b3, b4.1, by omega, fun q hq w o c => ?_⟩
          by_cases e : q = v
          · rw [e] at c; exact c0 c
          · rcases zQ_tot h (show q < 8 by omega) (show v < 8 by omega) w v2 e with o2 | o2
            · exact v4 q hq w o2 c
            · rcases b5 q hq ⟨w, fun v'' e' => by cases e'; exact o2⟩ with e3 | e3
              · rw [e3] at o; exact zQ_irr o
              · exact zQ_as o e3
        have hB : b = none → ∀ q, q < G 6 8 → wT q s → ¬ canP n x q s := by
          intro e
          subst e
          intro q hq w c
          by_cases e : q = v
          · rw [e] at c; exact c0 c
          · rcases zQ_tot h (show q < 8 by omega) (show v < 8 by omega) w v2 e with o2 | o2
            · exact v4 q hq w o2 c
            · exact b1 q hq ⟨w, fun v'' e' => by cases e'; exact o2⟩
        rcases ih k b hA hB (by omega) with r | ⟨b', k', r1, r2, r3⟩
        · exact Or.inl r
        · exact Or.inr ⟨b', k', r1, by omega, r3⟩
theorem bhd_8 {v : Nat} : bhd v s ≤ 8 := by
  have : ∀ (P : Nat → Bool) m k, zct P m k ≤ m := by
    intro P m
    induction m with
    | zero => intro k; exact Nat.le_refl _
    | succ m ih =>
      intro k
      have := ih (k + 1)
      unfold zct
      split <;> omega
  exact this _ 8 0
/-- how many wait -/
def wcn (s : zσ) : Nat := zct (fun k => decide (s.1 (1036 + 3 * k) 3 = 3 ∨ s.1 (1036 + 3 * k) 3 = 4)) 8 0
/-- nobody that waits can have what it waits for -/
def Nob (n x : Nat) (s : zσ) : Prop := ∀ k, k < 8 → wT k s → ¬ canP n x k s
theorem wcn_lt {s2 : zσ} (hj : j < 8) (w : wT j s) (w2 : ¬ wT j s2) (h : ∀ k, k < 8 → k ≠ j → s2.1 (1036 + 3 * k) = s.1 (1036 + 3 * k)) : wcn s2 < wcn s := by
  refine zct_lt (e := j) 8 0 (fun k _ hk q => ?_) (Nat.zero_le _) (by omega) (fun q => ?_) ?_
  · have q1 := of_decide_eq_true q
    have q2 : wT k s2 := q1
    have q3 : wT k s := by
      by_cases e : k = j
      · subst e; exact absurd q2 w2
      · unfold wT at q2 ⊢
        rw [h k (by omega) e] at q2
        exact q2
    exact decide_eq_true q3
  · have q1 := of_decide_eq_true q
    have q2 : wT j s2 := q1
    exact w2 q2
  · exact decide_eq_true w
theorem serve_L (hn : 1000 ≤ n) : ∀ m c k k' (C : Nat) (F : Nat → Nat → Nat → Nat) (W : Nat → Nat → Nat) (s t : zσ), RUN G F W B C x y s t → wcn s ≤ m → c + m ≤ 8 → C + 2 * m < 899999990 → m < k → 20 * (m + 1) ≤ k' → ∃ s2 t2 F2 W2 C2, f132_2 n k (nI c) s = some s2 ∧ (yb1 (f227 n (-1 : Int32) t) fun v2 u1 => f226_6 n k' v2 u1) = some t2 ∧ RUN G F2 W2 B C2 x y s2 t2 ∧ C2 ≤ C + 2 * m ∧ Nob n x s2 ∧ t2.1 1132 69 = t.1 1132 69 := by
  intro m
  induction m with
  | zero =>
    intro c k k' C F W s t h hw hc hC hk hk'
    have h88 := (h.2.1.1.1 8 (by decide)).2.2
    obtain ⟨k, rfl⟩ : ∃ k0, k = k0 + 1 := ⟨k - 1, by omega⟩
    obtain ⟨b, b1, b2⟩ := c_pick (r2 := f132_2 n k) (x1 := nI c) hn h (G 6 8) 0 n none (by omega) (by omega) (fun k hk => by omega)
    obtain ⟨v, v1, v2⟩ := m_227 (ov := none) hn h (fun v e => by cases e)
    have e1 : f132_2 n (k + 1) (nI c) s = fin1 n s (f132_2 n k) (nI c) b := by
      rw [f132_2, if_neg (fun e => by have := (nltN (a := 8) (by decide) (by omega)).mp e; omega)]
      exact b2
    have nobody : ∀ q, q < 8 → ¬ wT q s := by
      intro q hq w
      have : 0 < wcn s := by
        refine Nat.lt_of_le_of_lt (Nat.zero_le _) (zct_lt (P := fun _ => false) (e := q) 8 0 (fun i _ _ e => by cases e) (Nat.zero_le _) (by omega) (fun e => by cases e) (decide_eq_true w))
      omega
    cases b with
    | none =>
      cases v with
      | none =>
        obtain ⟨k', rfl⟩ : ∃ k0, k' = k0 + 1 := ⟨k' - 1, by omega⟩
        refine ⟨s, t, F, W, C, by rw [e1]; rfl, ?_, h, by omega, fun q hq w => absurd w (nobody q hq), rfl⟩
        rw [← enc_n, v2, gy1, enc_n, f226_6, if_pos rfl]
      | some v => exact absurd v1.2.1.1 (nobody v (by have := v1.1; omega))
    | some b => exact absurd b1.2.1 (nobody b (by have := b1.1; omega))
  | succ m ih =>
    intro c k k' C F W s t h hw hc hC hk hk'
    have h88 := (h.2.1.1.1 8 (by decide)).2.2
    obtain ⟨k, rfl⟩ : ∃ k0, k = k0 + 1 := ⟨k - 1, by omega⟩
    obtain ⟨b, b1, b2⟩ := c_pick (r2 := f132_2 n k) (x1 := nI c) hn h (G 6 8) 0 n none (by omega) (by omega) (fun k hk => by omega)
    obtain ⟨v, v1, v2⟩ := m_227 (ov := none) hn h (fun v e => by cases e)
    have e1 : f132_2 n (k + 1) (nI c) s = fin1 n s (f132_2 n k) (nI c) b := by
      rw [f132_2, if_neg (fun e => by have := (nltN (a := 8) (by decide) (by omega)).mp e; omega)]
      exact b2
    have e2 : (yb1 (f227 n (-1 : Int32) t) fun v2 u1 => f226_6 n k' v2 u1) = f226_6 n k' (enc v) t := by
      rw [← enc_n, v2, gy1]
    have wN : ∀ q, q < 8 → wT q s → q < G 6 8 := fun q hq w => (w_of h hq w).choose_spec.2.2.2.2.2.2.2
    rw [e1, e2]
    rcases m_loop hn h 8 k' v (fun v' e => by
        subst e
        obtain ⟨u1, u2, u3⟩ := v1
        refine ⟨u1, u2.1, bhd_8, fun q hq w o => ?_⟩
        rcases u3 q hq ⟨w, fun v e => by cases e⟩ with e | e
        · rw [e] at o; exact absurd o zQ_irr
        · exact absurd e (zQ_as o)) (fun e => by
        subst e
        intro q hq w
        exact absurd ⟨w, fun v e => by cases e⟩ (v1 q hq)) (by omega) with ⟨r1, r2⟩ | ⟨b', k2, r1, r2, r3⟩
    · cases b with
      | none => exact ⟨s, t, F, W, C, rfl, r2, h, by omega, fun q hq w => r1 q (wN q hq w) w, rfl⟩
      | some b => exact absurd b1.2.2.1 (r1 b b1.1 b1.2.1)
    · cases b with
      | none => exact absurd r1.2.2.1 (b1 b' r1.1 r1.2.1)
      | some b =>
        have eb : b' = b := by
          rcases b1.2.2.2 b' r1.1 r1.2.1 r1.2.2.1 with e | e
          · exact e
          · rcases r1.2.2.2 b b1.1 b1.2.1 b1.2.2.1 with e3 | e3
            · exact e3.symm
            · exact absurd e3 (zQ_as e)
        subst eb
        have hb8 : b' < 8 := by have := b1.1; omega
        obtain ⟨s2, t2, F2, W2, C2, g1, g2, g3, g4, g5, g6, g7⟩ := grant_ok hn (by omega) h hb8 b1.2.1 b1.2.2.1
        have wl := wcn_lt hb8 b1.2.1 g5 (fun q hq e => (g6 q hq e).1)
        obtain ⟨s3, t3, F3, W3, C3, i1, i2, i3, i4, i5, i6⟩ := ih (c + 1) k k2 C2 F2 W2 s2 t2 g3 (by omega) (by omega) (by omega) (by omega) (by omega)
        refine ⟨s3, t3, F3, W3, C3, ?_, ?_, i3, by omega, i5, by rw [i6, g7]⟩
        · show gtC n b' s (f132_2 n k) (nI c) = some s3
          rw [g1, naddL, i1]
        · rw [r3, g2, gy0, i2]
/-- serve -/
theorem serve_ok (hn : 1000 ≤ n) (hC : C < 899999900) (h : RUN G F W B C x y s t) : ∃ s2 t2 F2 W2 C2, f132 n s = some s2 ∧ f226 n t = some t2 ∧ RUN G F2 W2 B C2 x y s2 t2 ∧ C2 ≤ C + 16 ∧ Nob n x s2 ∧ t2.1 1132 69 = t.1 1132 69 := by
  have l8 : wcn s ≤ 8 := by
    have : ∀ (P : Nat → Bool) m k, zct P m k ≤ m := by
      intro P m
      induction m with
      | zero => intro k; exact Nat.le_refl _
      | succ m ih =>
        intro k
        have := ih (k + 1)
        unfold zct
        split <;> omega
    exact this _ 8 0
  obtain ⟨s2, t2, F2, W2, C2, a1, a2, a3, a4, a5, a6⟩ := serve_L hn 8 0 n n C F W s t h l8 (by omega) (by omega) (by omega) (by omega)
  exact ⟨s2, t2, F2, W2, C2, a1, a2, a3, by omega, a5, a6⟩
end ZCF
