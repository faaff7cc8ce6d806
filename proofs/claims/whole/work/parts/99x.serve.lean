/-! those that wait are served -/
section ZCE
variable {G W : Nat → Nat → Nat} {F : Nat → Nat → Nat → Nat} {B C x y n i j : Nat} {s t : zσ}
theorem zQ_as {a b : Nat} (h1 : zQ a b s) : ¬ zQ b a s := fun h2 => zQ_irr (zQ_tr h1 h2)
theorem zct_lt {P Q : Nat → Bool} {e : Nat} : ∀ m k, (∀ i, k ≤ i → i < k + m → P i = true → Q i = true) → k ≤ e → e < k + m → ¬ P e = true → Q e = true → zct P m k < zct Q m k
  | 0, k, _, h1, h2, _, _ => by omega
  | m + 1, k, h, h1, h2, h3, h4 => by
    unfold zct
    have ha := h k (Nat.le_refl _) (by omega)
    by_cases q : e = k
    · subst q
      have := zct_le m (e + 1) (fun i a b => h i (by omega) (by omega))
      rw [if_neg h3, if_pos h4]
      omega
    · have := zct_lt m (k + 1) (fun i a b => h i (by omega) (by omega)) (by omega) (by omega) h3 h4
      by_cases w : P k = true
      · rw [if_pos w, if_pos (ha w)]; omega
      · rw [if_neg w]; omega
/-- the first of those that can, among the first m tasks -/
def Bst (n x m : Nat) (s : zσ) : Option Nat → Prop
  | none => ∀ k, k < m → wT k s → ¬ canP n x k s
  | some b => b < m ∧ wT b s ∧ canP n x b s ∧ ∀ k, k < m → wT k s → canP n x k s → k = b ∨ zQ b k s
def pl : Option Nat → Nat
  | none => 0
  | some b => 1036 + 3 * b
theorem pl_n : pl none = 0 := rfl
theorem pl_s {b : Nat} : pl (some b) = 1036 + 3 * b := rfl
def fin1 (n : Nat) (s : zσ) (r2 : Int32 → zσ → Option zσ) (x1 : Int32) : Option Nat → Option zσ
  | none => some s
  | some b => gtC n b s r2 x1
theorem c_pick {r2 : Int32 → zσ → Option zσ} {x1 : Int32} (hn : 1000 ≤ n) (h : RUN G F W B C x y s t) : ∀ m j k (b : Option Nat), j + m = G 6 8 → m < k → Bst n x j s b → ∃ b', Bst n x (G 6 8) s b' ∧ f132_12 n r2 k x1 (pl b) (nI j) s = fin1 n s r2 x1 b' := by
  have h88 := (h.2.1.1.1 8 (by decide)).2.2
  have rt := h.1.2.2.2.2.2.2
  have a12 : s.1 1007 12 = nI (G 6 8) := h.2.2.1.1.2.2.2.2.2.2.2.1
  intro m
  induction m with
  | zero =>
    intro j k b hj hk hb
    obtain ⟨k, rfl⟩ : ∃ k0, k = k0 + 1 := ⟨k - 1, by omega⟩
    have ej : j = G 6 8 := by omega
    subst ej
    refine ⟨b, hb, ?_⟩
    rw [f132_12, a12, if_neg Int32.lt_irrefl]
    cases b with
    | none => rw [pl_n, if_pos rfl]; rfl
    | some b =>
      obtain ⟨b1, b2, -⟩ := hb
      obtain ⟨q, d, -, -, w3, w4, -, -, -, w8, -⟩ := at_w (n := n) h (show b < 8 by omega) b2
      have p0 : ¬ (1036 + 3 * b : Nat) = 0 := by omega
      rw [pl_s, if_neg p0, if_pos (gck8 (show b < 8 by omega)), if_pos w3, zlet, w4, ← w8]
      rfl
  | succ m ih =>
    intro j k b hj hk hb
    obtain ⟨k, rfl⟩ : ∃ k0, k = k0 + 1 := ⟨k - 1, by omega⟩
    have hj8 : j < 8 := by omega
    have z8 : zin? (nI j) 8 = true := (zinN (by omega)).mpr hj8
    have nj := nxN (show j < 2 ^ 31 by omega)
    obtain ⟨m1, m0⟩ := m_228 (n := n) h hj8
    have e72 : ∀ p, f132_72 n r2 (f132_12 n r2 k) x1 p (nI j) s = f132_12 n r2 k x1 p (nI (j + 1)) s := by
      intro p
      unfold f132_72
      rw [naddL]
    have keep : ∀ p, (wT j s → canP n x j s → ∃ b0, b = some b0 ∧ zQ b0 j s) → p = pl b → f132_12 n r2 (k + 1) x1 (pl b) (nI j) s = f132_12 n r2 k x1 p (nI (j + 1)) s → ∃ b', Bst n x (G 6 8) s b' ∧ f132_12 n r2 (k + 1) x1 (pl b) (nI j) s = fin1 n s r2 x1 b' := by
      intro p hw hp he
      rw [he, hp]
      refine ih (j + 1) k b (by omega) (by omega) ?_
      cases b with
      | none =>
        intro q hq w c
        by_cases e : q = j
        · subst e
          obtain ⟨b0, e0, -⟩ := hw w c
          cases e0
        · exact hb q (by omega) w c
      | some b0 =>
        obtain ⟨b1, b2, b3, b4⟩ := hb
        refine ⟨by omega, b2, b3, fun q hq w c => ?_⟩
        by_cases e : q = j
        · subst e
          obtain ⟨b5, e0, e1⟩ := hw w c
          cases e0
          exact Or.inr e1
        · exact b4 q (by omega) w c
    rw [f132_12, a12, if_pos ((nltN (by omega) (by omega)).mpr (by omega)), if_pos z8, nj, rt j hj8, grd (gck8 hj8)] at keep ⊢
    by_cases w : wT j s
    · rw [(m1 w).2, gy1, if_neg (by decide)] at keep ⊢
      obtain ⟨q, d, -, -, w3, w4, -, -, -, w8, -⟩ := at_w (n := n) h hj8 w
      have e49 : ∀ p, f132_49 n r2 (f132_12 n r2 k) x1 p (nI j) (1036 + 3 * j) s = yb1 (f107 n (1036 + 3 * j) (nI (zsq j s)) s) fun v2 u1 => if v2 = (0 : Int32) then f132_72 n r2 (f132_12 n r2 k) x1 p (nI j) u1 else f132_72 n r2 (f132_12 n r2 k) x1 (1036 + 3 * j) (nI j) u1 := by
        intro p
        unfold f132_49
        rw [if_pos w3, w4, w8]
      cases b with
      | none =>
        show ∃ b', _ ∧ (if (0 : Nat) = 0 then _ else _) = _
        rw [if_pos rfl, e49]
        rw [show pl none = 0 from rfl, if_pos rfl, e49] at keep
        rcases can_ok hn h hj8 w with ⟨c0, c1, -⟩ | ⟨c0, c1, -⟩
        · rw [c1, gy1, if_neg (by decide), e72]
          refine ih (j + 1) k (some j) (by omega) (by omega) ⟨by omega, w, c0, fun q hq w' c' => ?_⟩
          by_cases e : q = j
          · exact Or.inl e
          · exact absurd c' (hb q (by omega) w')
        · rw [c1, gy1, if_pos rfl, e72] at keep ⊢
          exact keep 0 (fun _ c => absurd c c0) rfl rfl
      | some b0 =>
        obtain ⟨b1, b2, b3, b4⟩ := id hb
        have p0 : ¬ (1036 + 3 * b0 : Nat) = 0 := by omega
        show ∃ b', _ ∧ (if (1036 + 3 * b0 : Nat) = 0 then _ else _) = _
        rw [if_neg p0, show pl (some b0) = 1036 + 3 * b0 from rfl, if_pos (gck8 (show b0 < 8 by omega))]
        rw [show pl (some b0) = 1036 + 3 * b0 from rfl, if_neg p0, if_pos (gck8 (show b0 < 8 by omega))] at keep
        rcases ord_ok (n := n) h hj8 (show b0 < 8 by omega) w b2 with ⟨o, o1, -⟩ | ⟨o, o1, -⟩
        · rw [o1, gy1, if_neg (by decide), e49] at keep ⊢
          rcases can_ok hn h hj8 w with ⟨c0, c1, -⟩ | ⟨c0, c1, -⟩
          · rw [c1, gy1, if_neg (by decide), e72]
            refine ih (j + 1) k (some j) (by omega) (by omega) ⟨by omega, w, c0, fun q hq w' c' => ?_⟩
            by_cases e : q = j
            · exact Or.inl e
            · rcases b4 q (by omega) w' c' with e2 | e2
              · rw [e2]; exact Or.inr o
              · exact Or.inr (zQ_tr o e2)
          · rw [c1, gy1, if_pos rfl, e72] at keep ⊢
            exact keep _ (fun _ c => absurd c c0) rfl rfl
        · rw [o1, gy1, if_pos rfl, e72] at keep ⊢
          refine keep _ (fun _ _ => ⟨b0, rfl, ?_⟩) rfl rfl
          rcases zQ_tot h (show b0 < 8 by omega) hj8 b2 w (by omega) with e | e
          · exact e
          · exact absurd e o
    · rw [(m0 w).2, gy1, if_pos rfl, e72] at keep ⊢
      exact keep _ (fun w' => absurd w' w) rfl rfl
end ZCE
