/-! who waits for what: the reference, and the answer -/
section ZCV
variable {G W W2 : Nat → Nat → Nat} {F F2 : Nat → Nat → Nat → Nat} {B C B2 C2 x y n i j o k v p D r N P g z q : Nat} {s t s2 t2 s' t' : zσ} {a b : Nat → Nat} {S K : Int32} {fb : Nat → Bool}
theorem i_sub0 {a b : Int32} : a - b = 0 ↔ b = a := by
  constructor
  · intro h
    have := Int32.sub_add_cancel a b
    rw [h, Int32.zero_add] at this
    exact this
  · intro h
    rw [h, Int32.sub_self]
theorem i_sub1 {a : Int32} {c : Nat} : a - nI c + (-1) = a - nI (c + 1) := by
  rw [← nI_1, Int32.sub_eq_add_neg, Int32.sub_eq_add_neg, Int32.neg_add, Int32.add_assoc, ← Int32.sub_eq_add_neg (-nI c)]
/-- one further on -/
theorem rkw_s (h : RUN G F W B C x y s t) (hfb : ∀ j, j < G 6 8 → fb j = true → wT j s) {a l : Nat} (hl : l < G 6 8) (wl : wT l s) (o : zQ l a s) (hm : ∀ j, j < G 6 8 → wT j s → zQ l j s → j = a ∨ zQ a j s) : rkw fb (G 6 8) a s = rkw fb (G 6 8) l s + (if fb l = true then 1 else 0) := by
  have h88 := (h.2.1.1.1 8 (by decide)).2.2
  have e1 : zct (fun j => fb j && decide (j = l)) (G 6 8) 0 = (if fb l = true then 1 else 0) := by
    by_cases w : fb l = true
    · rw [if_pos w]
      refine zct_one (e := l) _ 0 (fun i _ _ => ?_) (Nat.zero_le _) (by omega)
      rw [Bool.and_eq_true, decide_eq_true_eq]
      exact ⟨fun u => u.2, fun u => ⟨by rw [u]; exact w, u⟩⟩
    · rw [if_neg w]
      refine zct_no _ 0 (fun i _ _ u => ?_)
      rw [Bool.and_eq_true, decide_eq_true_eq] at u
      rw [u.2] at u
      exact w u.1
  rw [← e1]
  refine zct_or (G 6 8) 0 (fun i _ hi => ?_)
  by_cases f : fb i = true
  · by_cases q : i = l
    · rw [if_pos (rkw_d.mpr ⟨f, by rw [q]; exact o⟩), if_neg (fun w => by have := (rkw_d.mp w).2; rw [q] at this; exact zQ_irr this), if_pos (by rw [Bool.and_eq_true]; exact ⟨f, decide_eq_true q⟩)]
    · rw [if_neg (show ¬ (fb i && decide (i = l)) = true by rw [Bool.and_eq_true, decide_eq_true_eq]; exact fun u => q u.2)]
      have wi := hfb i (by omega) f
      by_cases w : zQ i l s
      · rw [if_pos (rkw_d.mpr ⟨f, zQ_tr w o⟩), if_pos (rkw_d.mpr ⟨f, w⟩)]
      · rw [if_neg (fun u => w (rkw_d.mp u).2), if_neg (fun u => ?_)]
        have u1 := (rkw_d.mp u).2
        rcases zQ_tot h (show i < 8 by omega) (show l < 8 by omega) wi wl q with c | c
        · exact w c
        · rcases hm i (by omega) wi c with e | e
          · rw [e] at u1; exact zQ_irr u1
          · exact zQ_as u1 e
  · rw [if_neg (fun u => f (rkw_d.mp u).1), if_neg (fun u => f (rkw_d.mp u).1), if_neg (by rw [Bool.and_eq_true]; exact fun u => f u.1)]
theorem m_wo (hn : 1000 ≤ n) (h : RUN G F W B C x y s t) (hfb : ∀ j, j < G 6 8 → fb j = true → wT j s) (hf : ∀ j, j < 8 → wT j s → (fb j = true ∧ f279 n (nI j) S (nI q) t = some (1, t)) ∨ (fb j = false ∧ f279 n (nI j) S (nI q) t = some (0, t))) : ∀ m fu v, v < G 6 8 → wT v s → bhd v s ≤ m → (∀ j, j < G 6 8 → fb j = true → zQ j v s → ¬ nI (rkw fb (G 6 8) j s) = K) → m + 1 < fu → ∃ b, wA fb (G 6 8) K s 0 b ∧ f278_57 n fu S (nI q) (K - nI (rkw fb (G 6 8) v s)) (nI v) t = some (enc b, t) := by
  have h88 := (h.2.1.1.1 8 (by decide)).2.2
  intro m
  induction m with
  | zero =>
    intro fu v hv wv hb hbefore hfu
    obtain ⟨fu, rfl⟩ : ∃ f0, fu = f0 + 1 := ⟨fu - 1, by omega⟩
    obtain ⟨fu, rfl⟩ : ∃ f0, fu = f0 + 1 := ⟨fu - 1, by omega⟩
    have nv : ¬ nI v = -1 := fun e => (neqM (show v < 2 ^ 31 by omega)).mp e
    obtain ⟨b, b1, b2⟩ := m_227 (ov := some v) hn h (fun v' e => by cases e; exact ⟨by omega, wv⟩)
    rw [enc_s] at b2
    have last : (fb v = true → ¬ nI (rkw fb (G 6 8) v s) = K) → ∀ X, ∃ b, wA fb (G 6 8) K s 0 b ∧ f278_85 n (f278_57 n (fu + 1)) S (nI q) X (nI v) t = some (enc b, t) := by
      intro hv2 X
      cases b with
      | none =>
        refine ⟨none, fun j _ hj fj => ?_, ?_⟩
        · by_cases e : j = v
          · rw [e] at fj ⊢; exact hv2 fj
          · rcases zQ_tot h (show j < 8 by omega) (show v < 8 by omega) (hfb j hj fj) wv e with o | o
            · exact hbefore j hj fj o
            · exact absurd ⟨hfb j hj fj, fun v' e' => by cases e'; exact o⟩ (b1 j hj)
        · unfold f278_85
          rw [b2, gy1, enc_n, f278_57, if_pos rfl]
      | some b =>
        obtain ⟨b3, b4, -⟩ := b1
        have := bhd_lt (show b < 8 by omega) b4.1 (b4.2 v rfl)
        omega
    rw [f278_57, if_neg nv]
    rcases hf v (by omega) wv with ⟨f1, f2⟩ | ⟨f1, f2⟩
    · rw [f2, gy1, if_neg (by decide)]
      by_cases w : nI (rkw fb (G 6 8) v s) = K
      · rw [if_pos (i_sub0.mpr w)]
        exact ⟨some v, ⟨Nat.zero_le _, hv, f1, w⟩, rfl⟩
      · rw [if_neg (fun u => w (i_sub0.mp u))]
        exact last (fun _ => w) _
    · rw [f2, gy1, if_pos rfl]
      exact last (fun w => by rw [f1] at w; cases w) _
  | succ m ih =>
    intro fu v hv wv hb hbefore hfu
    obtain ⟨fu, rfl⟩ : ∃ f0, fu = f0 + 1 := ⟨fu - 1, by omega⟩
    have nv : ¬ nI v = -1 := fun e => (neqM (show v < 2 ^ 31 by omega)).mp e
    obtain ⟨b, b1, b2⟩ := m_227 (ov := some v) hn h (fun v' e => by cases e; exact ⟨by omega, wv⟩)
    rw [enc_s] at b2
    have go : (fb v = true → ¬ nI (rkw fb (G 6 8) v s) = K) → ∀ X, X = K - nI (rkw fb (G 6 8) v s + (if fb v = true then 1 else 0)) → ∃ b, wA fb (G 6 8) K s 0 b ∧ f278_85 n (f278_57 n fu) S (nI q) X (nI v) t = some (enc b, t) := by
      intro hv2 X hX
      cases b with
      | none =>
        obtain ⟨fu, rfl⟩ : ∃ f0, fu = f0 + 1 := ⟨fu - 1, by omega⟩
        refine ⟨none, fun j _ hj fj => ?_, ?_⟩
        · by_cases e : j = v
          · rw [e] at fj ⊢; exact hv2 fj
          · rcases zQ_tot h (show j < 8 by omega) (show v < 8 by omega) (hfb j hj fj) wv e with o | o
            · exact hbefore j hj fj o
            · exact absurd ⟨hfb j hj fj, fun v' e' => by cases e'; exact o⟩ (b1 j hj)
        · unfold f278_85
          rw [b2, gy1, enc_n, f278_57, if_pos rfl]
      | some b =>
        obtain ⟨b3, b4, b5⟩ := b1
        have l := bhd_lt (show b < 8 by omega) b4.1 (b4.2 v rfl)
        have er := rkw_s (fb := fb) h hfb hv wv (b4.2 v rfl) (fun j hj wj o => b5 j hj ⟨wj, fun v' e' => by cases e'; exact o⟩)
        obtain ⟨b', c1, c2⟩ := ih fu b b3 b4.1 (by omega) (fun j hj fj o => by
          by_cases e : j = v
          · rw [e] at fj ⊢; exact hv2 fj
          · rcases zQ_tot h (show j < 8 by omega) (show v < 8 by omega) (hfb j hj fj) wv e with o2 | o2
            · exact hbefore j hj fj o2
            · rcases b5 j hj ⟨hfb j hj fj, fun v' e' => by cases e'; exact o2⟩ with e3 | e3
              · rw [e3] at o; exact absurd o zQ_irr
              · exact absurd e3 (zQ_as o)) (by omega)
        refine ⟨b', c1, ?_⟩
        unfold f278_85
        rw [b2, gy1, enc_s, hX, ← er, c2]
    rw [f278_57, if_neg nv]
    rcases hf v (by omega) wv with ⟨f1, f2⟩ | ⟨f1, f2⟩
    · rw [f2, gy1, if_neg (by decide)]
      by_cases w : nI (rkw fb (G 6 8) v s) = K
      · rw [if_pos (i_sub0.mpr w)]
        exact ⟨some v, ⟨Nat.zero_le _, hv, f1, w⟩, rfl⟩
      · rw [if_neg (fun u => w (i_sub0.mp u))]
        exact go (fun _ => w) _ (by rw [if_pos f1, i_sub1])
    · rw [f2, gy1, if_pos rfl]
      exact go (fun w => by rw [f1] at w; cases w) _ (by rw [f1, if_neg (by decide), Nat.add_zero])
theorem wA_un (h : RUN G F W B C x y s t) (hfb : ∀ j, j < G 6 8 → fb j = true → wT j s) {b b' : Option Nat} (h1 : wA fb (G 6 8) K s 0 b) (h2 : wA fb (G 6 8) K s 0 b') : b = b' := by
  have h88 := (h.2.1.1.1 8 (by decide)).2.2
  have lz : ∀ i, rkw fb (G 6 8) i s ≤ 8 := fun i => Nat.le_trans (zct_m (G 6 8) 0) h88
  cases b with
  | none =>
    cases b' with
    | none => rfl
    | some j => exact absurd h2.2.2.2 (h1 j h2.1 h2.2.1 h2.2.2.1)
  | some i =>
    cases b' with
    | none => exact absurd h1.2.2.2 (h2 i h1.1 h1.2.1 h1.2.2.1)
    | some j =>
      obtain ⟨-, i1, i2, i3⟩ := h1
      obtain ⟨-, j1, j2, j3⟩ := h2
      have e := (neqN (show rkw fb (G 6 8) i s < 2 ^ 31 by have := lz i; omega) (show rkw fb (G 6 8) j s < 2 ^ 31 by have := lz j; omega)).mp (i3.trans j3.symm)
      by_cases w : i = j
      · rw [w]
      · rcases zQ_tot h (show i < 8 by omega) (show j < 8 by omega) (hfb i i1 i2) (hfb j j1 j2) w with o | o
        · have := rkw_lt i1 i2 o; omega
        · have := rkw_lt j1 j2 o; omega
theorem ea_waits (hn : 1000 ≤ n) (h : eR G W F B C x y s t) (q1 q2 q3 : Int32) : eq2 (f146 n q1 q2 q3) (f278 n q1 q2 q3) s t := by
  obtain ⟨c9, c12, hy⟩ := eR_c h
  have hNs := eR_n h
  have hm := eR_m h
  obtain ⟨hr, hr2, hx, hR⟩ := h
  have h88 := (hR.2.1.1.1 8 (by decide)).2.2
  have nr : ¬ s.1 1007 11 = 0 := by rw [hr]; decide
  have nr2 : ¬ t.1 1132 17 = 0 := by rw [hr2]; decide
  have main : ∀ kk : Nat, q1 = nI kk → kk < 9 → Gh G (fun _ => 0) (fun _ => 0) 0 6 kk ≤ 4 → (q1 = 2 ∨ q1 = 3 ∨ q1 = 5) → eq2 (f146_31 n q1 q2 q3) (f278_28 n q1 q2 q3) s t := by
    intro kk ek hk9 h4 hs
    have h4' : G 6 kk ≤ 4 := h4
    obtain ⟨n1, n2, n3⟩ := hNs kk hk9
    have zk : zin? q1 9 = true := by rw [ek]; exact (zinN (by omega)).mpr hk9
    have nk : nx q1 = kk := by rw [ek]; exact nxN (by omega)
    by_cases w : q2 < 0
    · refine ⟨-1, ?_, ?_⟩
      · unfold f146_31
        rw [hx, grd c9, has_neg w, gy1, if_pos rfl]
      · unfold f278_28
        rw [if_pos w]
    · obtain ⟨q, hq, rfl⟩ := nI_of w
      have e1 : f134 n x q1 (nI q) s = some (if q < G 6 kk then 1 else 0, s) := has_N (by rw [nk]; exact n1) zk hq (by omega)
      have l1 := nltN hq (show G 6 kk < 2 ^ 31 by omega)
      by_cases hl : q < G 6 kk
      · have H : ∀ j, ∃ bb : Bool, j < 8 → (bb = true ∧ wT j s ∧ f148 n (1036 + 3 * j) q1 (nI q) s = some (1, s) ∧ f279 n (nI j) q1 (nI q) t = some (1, t)) ∨ (bb = false ∧ f148 n (1036 + 3 * j) q1 (nI q) s = some (0, s) ∧ (wT j s → f279 n (nI j) q1 (nI q) t = some (0, t))) := by
          intro j
          by_cases hj : j < 8
          · rcases fw_ok hn hR hj (show q < 4 by omega) hs with u | u
            · exact ⟨true, fun _ => Or.inl ⟨rfl, u⟩⟩
            · exact ⟨false, fun _ => Or.inr ⟨rfl, u⟩⟩
          · exact ⟨false, fun u => absurd u hj⟩
        obtain ⟨fb, hfb0⟩ : ∃ fb : Nat → Bool, ∀ j, j < 8 → (fb j = true ∧ wT j s ∧ f148 n (1036 + 3 * j) q1 (nI q) s = some (1, s) ∧ f279 n (nI j) q1 (nI q) t = some (1, t)) ∨ (fb j = false ∧ f148 n (1036 + 3 * j) q1 (nI q) s = some (0, s) ∧ (wT j s → f279 n (nI j) q1 (nI q) t = some (0, t))) := ⟨fun j => (H j).choose, fun j => (H j).choose_spec⟩
        have hfb : ∀ j, j < G 6 8 → fb j = true → wT j s := by
          intro j hj f
          rcases hfb0 j (by omega) with u | u
          · exact u.2.1
          · rw [u.1] at f; cases f
        have hfC : ∀ j, j < 8 → (fb j = true ∧ wT j s ∧ f148 n (1036 + 3 * j) q1 (nI q) s = some (1, s)) ∨ (fb j = false ∧ f148 n (1036 + 3 * j) q1 (nI q) s = some (0, s)) := by
          intro j hj
          rcases hfb0 j hj with ⟨u1, u2, u3, -⟩ | ⟨u1, u2, -⟩
          · exact Or.inl ⟨u1, u2, u3⟩
          · exact Or.inr ⟨u1, u2⟩
        have hfM : ∀ j, j < 8 → wT j s → (fb j = true ∧ f279 n (nI j) q1 (nI q) t = some (1, t)) ∨ (fb j = false ∧ f279 n (nI j) q1 (nI q) t = some (0, t)) := by
          intro j hj wj
          rcases hfb0 j hj with ⟨u1, u2, -, u3⟩ | ⟨u1, -, u3⟩
          · exact Or.inl ⟨u1, u3⟩
          · exact Or.inr ⟨u1, u3 wj⟩
        obtain ⟨b, b1, b2⟩ := c_wo (K := q3) hn hR hfC (G 6 8) 0 n (Nat.zero_add _) (by omega)
        obtain ⟨v, v1, v2⟩ := m_227 (ov := none) hn hR (fun v e => by cases e)
        rw [enc_n] at v2
        have eC : f146_31 n q1 (nI q) q3 s = some (enc b, s) := by
          unfold f146_31
          rw [hx, grd c9, e1, gy1, if_pos hl, if_neg (by decide)]
          have b2' : f147 n q1 (nI q) q3 s = some (enc b, s) := b2
          rw [b2', gy1]
        have eM : f278_28 n q1 (nI q) q3 t = f278_57 n n q1 (nI q) q3 (enc v) t := by
          unfold f278_28
          rw [if_neg w, hy, grd c12, if_pos zk, nk, n2, if_pos (l1.mpr hl), v2, gy1]
        refine ⟨enc b, eC, ?_⟩
        rw [eM]
        cases v with
        | none =>
          obtain ⟨m, rfl⟩ : ∃ m, n = m + 1 := ⟨n - 1, by omega⟩
          rw [enc_n, f278_57, if_pos rfl]
          have : b = none := by
            cases b with
            | none => rfl
            | some j => exact absurd ⟨hfb j b1.2.1 b1.2.2.1, fun v e => by cases e⟩ (v1 j b1.2.1)
          rw [this, enc_n]
        | some v =>
          obtain ⟨u1, u2, u3⟩ := v1
          have r0 : rkw fb (G 6 8) v s = 0 := by
            refine zct_no (G 6 8) 0 (fun i _ hi w => ?_)
            have := rkw_d.mp w
            rcases u3 i (by omega) ⟨hfb i (by omega) this.1, fun v e => by cases e⟩ with e | e
            · have o := this.2; rw [e] at o; exact zQ_irr o
            · exact zQ_as this.2 e
          obtain ⟨b', c1, c2⟩ := m_wo (K := q3) (S := q1) (q := q) hn hR hfb hfM 8 n v u1 u2.1 bhd_8 (fun j hj fj o => by
            rcases u3 j hj ⟨hfb j hj fj, fun v e => by cases e⟩ with e | e
            · rw [e] at o; exact absurd o zQ_irr
            · exact absurd e (zQ_as o)) (by omega)
          rw [r0, show q3 - nI 0 = q3 by rw [show nI 0 = (0 : Int32) from rfl, Int32.sub_zero]] at c2
          rw [enc_s, c2, wA_un hR hfb b1 c1]
      · refine ⟨-1, ?_, ?_⟩
        · unfold f146_31
          rw [hx, grd c9, e1, gy1, if_neg hl, if_pos rfl]
        · unfold f278_28
          rw [if_neg w, hy, grd c12, if_pos zk, nk, n2, if_neg (fun u => hl (l1.mp u))]
  by_cases a2 : q1 = 2
  · obtain ⟨v, e1, e2⟩ := main 2 (by rw [a2]; rfl) (by decide) hm.2.1 (Or.inl a2)
    refine ⟨v, ?_, ?_⟩
    · unfold f146
      rw [if_neg nr, if_pos a2]; exact e1
    · unfold f278
      rw [if_neg nr2, if_pos a2]; exact e2
  · by_cases a3 : q1 = 3
    · obtain ⟨v, e1, e2⟩ := main 3 (by rw [a3]; rfl) (by decide) hm.2.2.1 (Or.inr (Or.inl a3))
      refine ⟨v, ?_, ?_⟩
      · unfold f146
        rw [if_neg nr, if_neg a2, if_pos a3]; exact e1
      · unfold f278
        rw [if_neg nr2, if_neg a2, if_pos a3]; exact e2
    · by_cases a5 : q1 = 5
      · obtain ⟨v, e1, e2⟩ := main 5 (by rw [a5]; rfl) (by decide) hm.2.2.2.2.1 (Or.inr (Or.inr a5))
        refine ⟨v, ?_, ?_⟩
        · unfold f146
          rw [if_neg nr, if_neg a2, if_neg a3, if_pos a5]; exact e1
        · unfold f278
          rw [if_neg nr2, if_neg a2, if_neg a3, if_pos a5]; exact e2
      · refine ⟨-2, ?_, ?_⟩
        · unfold f146
          rw [if_neg nr, if_neg a2, if_neg a3, if_neg a5]
        · unfold f278
          rw [if_neg nr2, if_neg a2, if_neg a3, if_neg a5]
end ZCV
