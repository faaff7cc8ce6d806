/-! who of the ready ones comes first -/
section ZCO
variable {G W W2 : Nat → Nat → Nat} {F F2 : Nat → Nat → Nat → Nat} {B C C2 x y n i j o k v p D r N P : Nat} {s t s2 t2 s' t' : zσ}
def rdy (i : Nat) (s : zσ) : Prop := s.1 (1036 + 3 * i) 3 = 1
def zRd (j i : Nat) (s : zσ) : Prop := s.1 (1036 + 3 * j) 4 < s.1 (1036 + 3 * i) 4 ∨ (s.1 (1036 + 3 * j) 4 = s.1 (1036 + 3 * i) 4 ∧ s.1 (1036 + 3 * j) 11 < s.1 (1036 + 3 * i) 11)
theorem zR_irr : ¬ zRd i i s := by
  rintro (h | ⟨-, h⟩)
  · exact Int32.lt_irrefl h
  · exact Int32.lt_irrefl h
theorem zR_tr {a b c : Nat} (h1 : zRd a b s) (h2 : zRd b c s) : zRd a c s := by
  unfold zRd at *
  rcases h1 with h1 | ⟨h1, h1'⟩
  · rcases h2 with h2 | ⟨h2, h2'⟩
    · exact Or.inl (Int32.lt_trans h1 h2)
    · exact Or.inl (by rw [← h2]; exact h1)
  · rcases h2 with h2 | ⟨h2, h2'⟩
    · exact Or.inl (by rw [h1]; exact h2)
    · exact Or.inr ⟨h1.trans h2, Int32.lt_trans h1' h2'⟩
theorem zR_as {a b : Nat} (h1 : zRd a b s) : ¬ zRd b a s := fun h2 => zR_irr (zR_tr h1 h2)
theorem r_of (h : RUN G F W B C x y s t) (hj : j < 8) (w : rdy j s) : ∃ p, p ≤ 9 ∧ s.1 (1036 + 3 * j) 4 = nI p ∧ t.1 1226 j = nI p ∧ s.1 (1036 + 3 * j) 11 = nI (W 0 j) ∧ t.1 1227 j = nI (W 2 j) ∧ W 0 j < 1000000000 ∧ W 2 j < 1000000000 ∧ j < G 6 8 := by
  obtain ⟨-, ⟨a, k, b1, b2, b3, b4, b5, b6, b7, b8, b9, b10, b11⟩, -⟩ := h.2.2.2.2.1 j hj (by omega)
  obtain ⟨-, -, -, -, p5, -⟩ := gP_of h
  obtain ⟨-, -, w3, w4, w5⟩ := p5
  have a31 : a < 2 ^ 31 := Nat.lt_of_le_of_lt b1 (by decide)
  have a1 : a = 1 := by
    unfold rdy at w
    rw [b2] at w
    exact (neq1 a31).mp w
  have a0 : a ≠ 0 := by clear b8 b9 b10 b11; omega
  obtain ⟨p, -, p2, p3, p4⟩ := b9 a0
  obtain ⟨q1, q2, q3, q4⟩ := b10 a1
  clear b8 b9 b10 b11
  have hjG : j < G 6 8 := by
    rcases Nat.lt_or_ge j (G 6 8) with q | q
    · exact q
    · exact absurd (b4 q) a0
  exact ⟨p, p2, p3, p4, q1, q2, by omega, by omega, hjG⟩
theorem zR_tot (h : RUN G F W B C x y s t) (hi : i < 8) (hj : j < 8) (wi : rdy i s) (wj : rdy j s) (hij : i ≠ j) : zRd i j s ∨ zRd j i s := by
  obtain ⟨p, a1, a2, a3, a4, a5, a6, a7, a8⟩ := r_of h hi wi
  obtain ⟨p', b1, b2, b3, b4, b5, b6, b7, b8⟩ := r_of h hj wj
  have u := ((h.2.2.2.2.2 i j hi hj (by omega) (by omega)) hij).1 wi wj
  unfold zRd
  rw [a2, b2, a4, b4]
  rcases Nat.lt_trichotomy p p' with q | q | q
  · exact Or.inl (Or.inl ((nltN (by omega) (by omega)).mpr q))
  · rcases Nat.lt_or_gt_of_ne u.1 with q2 | q2
    · exact Or.inl (Or.inr ⟨by rw [q], (nltN (by omega) (by omega)).mpr q2⟩)
    · exact Or.inr (Or.inr ⟨by rw [q], (nltN (by omega) (by omega)).mpr q2⟩)
  · exact Or.inr (Or.inl ((nltN (by omega) (by omega)).mpr q))
/-- the reference asks so -/
theorem m_239 (h : RUN G F W B C x y s t) (hi : i < 8) (hj : j < 8) (wi : rdy i s) (wj : rdy j s) : (zRd i j s ∧ f239 n (nI i) (nI j) t = some (1, t)) ∨ (¬ zRd i j s ∧ f239 n (nI i) (nI j) t = some (0, t)) := by
  obtain ⟨p, a1, a2, a3, a4, a5, a6, a7, a8⟩ := r_of h hi wi
  obtain ⟨p', b1, b2, b3, b4, b5, b6, b7, b8⟩ := r_of h hj wj
  have z1 : zin? (nI i) 8 = true := (zinN (by omega)).mpr hi
  have z2 : zin? (nI j) 8 = true := (zinN (by omega)).mpr hj
  have u : W 0 i < W 0 j ↔ W 2 i < W 2 j := by
    by_cases q : i = j
    · rw [q]; constructor <;> intro q2 <;> omega
    · exact (((h.2.2.2.2.2 i j hi hj (by omega) (by omega)) q).1 wi wj).2
  unfold zRd f239
  rw [if_pos z1, if_pos z2, if_pos z1, if_pos z2, if_pos z1, if_pos z2, nxN (show i < 2 ^ 31 by omega), nxN (show j < 2 ^ 31 by omega), a2, b2, a3, b3, a4, b4, a5, b5]
  by_cases q1 : p < p'
  · have c1 : nI p < nI p' := (nltN (by omega) (by omega)).mpr q1
    have c2 : ¬ nI p = nI p' := fun e => by have := (neqN (by omega) (by omega)).mp e; omega
    rw [if_neg c2, if_pos c1]
    exact Or.inl ⟨Or.inl c1, rfl⟩
  · have c1 : ¬ nI p < nI p' := fun e => q1 ((nltN (by omega) (by omega)).mp e)
    by_cases q2 : p = p'
    · have c2 : nI p = nI p' := by rw [q2]
      rw [if_pos c2]
      by_cases q3 : W 0 i < W 0 j
      · have c3 : nI (W 0 i) < nI (W 0 j) := (nltN (by omega) (by omega)).mpr q3
        rw [if_pos ((nltN (by omega) (by omega)).mpr (u.mp q3))]
        exact Or.inl ⟨Or.inr ⟨c2, c3⟩, rfl⟩
      · have c3 : ¬ nI (W 0 i) < nI (W 0 j) := fun e => q3 ((nltN (by omega) (by omega)).mp e)
        rw [if_neg (fun e => q3 (u.mpr ((nltN (by omega) (by omega)).mp e)))]
        exact Or.inr ⟨fun e => e.elim c1 (fun e => c3 e.2), rfl⟩
    · have c2 : ¬ nI p = nI p' := fun e => q2 ((neqN (by omega) (by omega)).mp e)
      rw [if_neg c2, if_neg c1]
      exact Or.inr ⟨fun e => e.elim c1 (fun e => c2 e.1), rfl⟩
/-- and it always answers -/
theorem m_239t (hi : i < 8) (hj : j < 8) : ∃ c, f239 n (nI i) (nI j) t = some (c, t) ∧ (c = 0 ∨ c = 1) := by
  have z1 : zin? (nI i) 8 = true := (zinN (by omega)).mpr hi
  have z2 : zin? (nI j) 8 = true := (zinN (by omega)).mpr hj
  unfold f239
  rw [if_pos z1, if_pos z2, if_pos z1, if_pos z2, if_pos z1, if_pos z2]
  split
  · split
    · exact ⟨1, rfl, Or.inr rfl⟩
    · exact ⟨0, rfl, Or.inl rfl⟩
  · split
    · exact ⟨1, rfl, Or.inr rfl⟩
    · exact ⟨0, rfl, Or.inl rfl⟩
/-- how many of the first N ready ones come ahead -/
def rk (N i : Nat) (s : zσ) : Nat := zct (fun j => decide (s.1 (1036 + 3 * j) 3 = 1 ∧ (s.1 (1036 + 3 * j) 4 < s.1 (1036 + 3 * i) 4 ∨ (s.1 (1036 + 3 * j) 4 = s.1 (1036 + 3 * i) 4 ∧ s.1 (1036 + 3 * j) 11 < s.1 (1036 + 3 * i) 11)))) N 0
theorem zct_or {P Q R : Nat → Bool} : ∀ m k, (∀ i, k ≤ i → i < k + m → (if R i = true then 1 else 0) = (if P i = true then 1 else 0) + (if Q i = true then 1 else 0)) → zct R m k = zct P m k + zct Q m k
  | 0, _, _ => rfl
  | m + 1, k, h => by
    unfold zct
    have h1 := zct_or m (k + 1) (fun i a b => h i (by omega) (by omega))
    have h2 := h k (Nat.le_refl _) (by omega)
    omega
theorem zct_no {P : Nat → Bool} : ∀ m k, (∀ i, k ≤ i → i < k + m → ¬ P i = true) → zct P m k = 0
  | 0, _, _ => rfl
  | m + 1, k, h => by
    unfold zct
    rw [zct_no m (k + 1) (fun i a b => h i (by omega) (by omega)), if_neg (h k (Nat.le_refl _) (by omega))]
theorem zct_one {P : Nat → Bool} {e : Nat} : ∀ m k, (∀ i, k ≤ i → i < k + m → (P i = true ↔ i = e)) → k ≤ e → e < k + m → zct P m k = 1
  | 0, k, _, h1, h2 => by omega
  | m + 1, k, h, h1, h2 => by
    unfold zct
    by_cases q : e = k
    · rw [if_pos ((h k (Nat.le_refl _) (by omega)).mpr q.symm), zct_no m (k + 1) (fun i a b w => by have := (h i (by omega) (by omega)).mp w; omega)]
    · rw [if_neg (fun w => q ((h k (Nat.le_refl _) (by omega)).mp w).symm), zct_one m (k + 1) (fun i a b => h i (by omega) (by omega)) (by omega) (by omega)]
theorem rk_lt {a b : Nat} (ha : a < N) (wa : rdy a s) (o : zRd a b s) : rk N a s < rk N b s := by
  refine zct_lt (e := a) N 0 (fun k _ _ q => ?_) (Nat.zero_le _) (by omega) (fun q => ?_) ?_
  · have q1 := of_decide_eq_true q
    have q2 : rdy k s ∧ zRd k a s := q1
    have q3 : rdy k s ∧ zRd k b s := ⟨q2.1, zR_tr q2.2 o⟩
    exact decide_eq_true q3
  · have q1 := of_decide_eq_true q
    have q2 : rdy a s ∧ zRd a a s := q1
    exact zR_irr q2.2
  · have q3 : rdy a s ∧ zRd a b s := ⟨wa, o⟩
    exact decide_eq_true q3
theorem rk_inj (h : RUN G F W B C x y s t) {a b : Nat} (ha : a < G 6 8) (hb : b < G 6 8) (wa : rdy a s) (wb : rdy b s) (e : rk (G 6 8) a s = rk (G 6 8) b s) : a = b := by
  have h88 := (h.2.1.1.1 8 (by decide)).2.2
  rcases Nat.decEq a b with q | q
  · rcases zR_tot h (by omega) (by omega) wa wb q with o | o
    · have := rk_lt ha wa o; omega
    · have := rk_lt hb wb o; omega
  · exact q
theorem rk_0 {a : Nat} (h : ∀ j, j < N → rdy j s → ¬ zRd j a s) : rk N a s = 0 := by
  refine zct_no N 0 (fun i _ hi w => ?_)
  have q1 := of_decide_eq_true w
  have q2 : rdy i s ∧ zRd i a s := q1
  exact h i (by omega) q2.1 q2.2
theorem rk_s (h : RUN G F W B C x y s t) {a l : Nat} (hl : l < G 6 8) (wl : rdy l s) (wa : rdy a s) (o : zRd l a s) (hm : ∀ j, j < G 6 8 → rdy j s → zRd l j s → j = a ∨ zRd a j s) : rk (G 6 8) a s = rk (G 6 8) l s + 1 := by
  have h88 := (h.2.1.1.1 8 (by decide)).2.2
  have e1 : zct (fun j => decide (j = l)) (G 6 8) 0 = 1 := zct_one (e := l) _ 0 (fun i _ _ => by simp) (Nat.zero_le _) (by omega)
  rw [← e1]
  refine zct_or (G 6 8) 0 (fun i _ hi => ?_)
  have d1 : (decide (s.1 (1036 + 3 * i) 3 = 1 ∧ (s.1 (1036 + 3 * i) 4 < s.1 (1036 + 3 * a) 4 ∨ (s.1 (1036 + 3 * i) 4 = s.1 (1036 + 3 * a) 4 ∧ s.1 (1036 + 3 * i) 11 < s.1 (1036 + 3 * a) 11))) = true) ↔ (rdy i s ∧ zRd i a s) := ⟨fun w => by have := of_decide_eq_true w; exact this, fun w => by have : s.1 (1036 + 3 * i) 3 = 1 ∧ (s.1 (1036 + 3 * i) 4 < s.1 (1036 + 3 * a) 4 ∨ (s.1 (1036 + 3 * i) 4 = s.1 (1036 + 3 * a) 4 ∧ s.1 (1036 + 3 * i) 11 < s.1 (1036 + 3 * a) 11)) := w; exact decide_eq_true this⟩
  have d2 : (decide (s.1 (1036 + 3 * i) 3 = 1 ∧ (s.1 (1036 + 3 * i) 4 < s.1 (1036 + 3 * l) 4 ∨ (s.1 (1036 + 3 * i) 4 = s.1 (1036 + 3 * l) 4 ∧ s.1 (1036 + 3 * i) 11 < s.1 (1036 + 3 * l) 11))) = true) ↔ (rdy i s ∧ zRd i l s) := ⟨fun w => by have := of_decide_eq_true w; exact this, fun w => by have : s.1 (1036 + 3 * i) 3 = 1 ∧ (s.1 (1036 + 3 * i) 4 < s.1 (1036 + 3 * l) 4 ∨ (s.1 (1036 + 3 * i) 4 = s.1 (1036 + 3 * l) 4 ∧ s.1 (1036 + 3 * i) 11 < s.1 (1036 + 3 * l) 11)) := w; exact decide_eq_true this⟩
  by_cases q : i = l
  · rw [if_pos (d1.mpr ⟨by rw [q]; exact wl, by rw [q]; exact o⟩), if_neg (fun w => by have := (d2.mp w).2; rw [q] at this; exact zR_irr this), if_pos (decide_eq_true q)]
  · rw [if_neg (show ¬ decide (i = l) = true by simpa using q)]
    by_cases w : rdy i s ∧ zRd i l s
    · rw [if_pos (d1.mpr ⟨w.1, zR_tr w.2 o⟩), if_pos (d2.mpr w)]
    · rw [if_neg (fun u => w (d2.mp u)), if_neg (fun u => ?_)]
      have u1 := d1.mp u
      rcases zR_tot h (show i < 8 by omega) (show l < 8 by omega) u1.1 wl q with c | c
      · exact w ⟨u1.1, c⟩
      · rcases hm i (by omega) u1.1 c with e | e
        · have := u1.2; rw [e] at this; exact zR_irr this
        · exact zR_as u1.2 e
end ZCO
