/-! an irpt comes: the schedules for it, by priority -/
section ZCI
variable {G W W2 : Nat → Nat → Nat} {F F2 : Nat → Nat → Nat → Nat} {B C C2 x y n i j o k v p : Nat} {s t s2 t2 : zσ} {L : Nat → Bool} {e : Nat → Nat}
def rowL (L : Nat → Bool) (e : Nat → Nat) (p : Nat) : Nat → Nat → List Nat
  | 0, _ => []
  | m + 1, k => if L k = true ∧ e k = p then k :: rowL L e p m (k + 1) else rowL L e p m (k + 1)
def allL (L : Nat → Bool) (e : Nat → Nat) (M : Nat) : Nat → Nat → List Nat
  | 0, _ => []
  | r + 1, p => rowL L e p M 0 ++ allL L e M r (p + 1)
theorem zct_add {P Q R : Nat → Bool} (h : ∀ i, (if P i = true then 1 else 0) + (if Q i = true then 1 else 0) ≤ (if R i = true then 1 else 0)) : ∀ m k, zct P m k + zct Q m k ≤ zct R m k
  | 0, _ => Nat.le_refl _
  | m + 1, k => by
    unfold zct
    have h1 := zct_add h m (k + 1)
    have h2 := h k
    omega
theorem rowL_z : ∀ m k, (rowL L e p m k).length = zct (fun k => decide (L k = true ∧ e k = p)) m k
  | 0, _ => rfl
  | m + 1, k => by
    unfold rowL zct
    have h1 := rowL_z m (k + 1)
    by_cases q : L k = true ∧ e k = p
    · rw [if_pos q, if_pos (decide_eq_true q), List.length_cons, h1]; omega
    · rw [if_neg q, if_neg (fun w => q (of_decide_eq_true w)), h1]; omega
theorem zct_m {P : Nat → Bool} : ∀ m k, zct P m k ≤ m
  | 0, _ => Nat.le_refl _
  | m + 1, k => by
    unfold zct
    have := zct_m (P := P) m (k + 1)
    split <;> omega
theorem allL_z {M : Nat} : ∀ r p, (allL L e M r p).length ≤ zct (fun k => decide (p ≤ e k)) M 0
  | 0, _ => Nat.zero_le _
  | r + 1, p => by
    unfold allL
    have h1 := allL_z (M := M) r (p + 1)
    have h2 := rowL_z (L := L) (e := e) (p := p) M 0
    have h3 := zct_add (P := fun k => decide (L k = true ∧ e k = p)) (Q := fun k => decide (p + 1 ≤ e k)) (R := fun k => decide (p ≤ e k)) (fun i => by
      simp only [decide_eq_true_eq]
      split
      · next q => rw [if_neg (by omega), if_pos (by omega)]; omega
      · split
        · rw [if_pos (by omega)]; omega
        · omega) M 0
    rw [List.length_append]
    omega
/-- the first numbers of the reference's order -/
theorem row_m {r31 : Int32 → Int32 → Int32 → zσ → Option zσ} (hv : v < 4) (hL : ∀ k, k < 2 * G 6 8 → (L k = true ↔ el v k s)) (he : ∀ k, k < 2 * G 6 8 → ef x (k / 2) s = nI (e k) ∧ e k < 2 ^ 31) (hp : p < 2 ^ 31) : ∀ m k c fu (t : zσ), RUN G F W B C x y s t → k + m = 2 * G 6 8 → m < fu → c + (rowL L e p m k).length ≤ 16 → ∃ t2, f261_40 n r31 fu (nI v) (nI c) (nI p) (nI k) t = r31 (nI v) (nI (c + (rowL L e p m k).length)) (nI (p + 1)) t2 ∧ t2.2 = t.2 ∧ (∀ a, a ≠ 1247 → t2.1 a = t.1 a) ∧ (∀ a, a < (rowL L e p m k).length → t2.1 1247 (c + a) = nI ((rowL L e p m k).getD a 0)) ∧ (∀ a, a < c → t2.1 1247 a = t.1 1247 a) := by
  intro m
  induction m with
  | zero =>
    intro k c fu t h hk hf hc
    have h88 := (h.2.1.1.1 8 (by decide)).2.2
    obtain ⟨fu, rfl⟩ : ∃ f0, fu = f0 + 1 := ⟨fu - 1, by omega⟩
    refine ⟨t, ?_, rfl, fun _ _ => rfl, fun a ha => absurd ha (Nat.not_lt_zero _), fun _ _ => rfl⟩
    rw [f261_40, m_209 h, gy1, nLmul, show k = 2 * G 6 8 by omega, if_neg Int32.lt_irrefl, naddL]
    rfl
  | succ m ih =>
    intro k c fu t h hk hf hc
    have h88 := (h.2.1.1.1 8 (by decide)).2.2
    obtain ⟨fu, rfl⟩ : ∃ f0, fu = f0 + 1 := ⟨fu - 1, by omega⟩
    have k16 : k < 16 := by omega
    have z16 : zin? (nI k) 16 = true := (zinN (by omega)).mpr k16
    have nk := nxN (show k < 2 ^ 31 by omega)
    have e2 : nI k / 2 = nI (k / 2) := (half16 ⟨k, k16⟩).1
    obtain ⟨m1, m0⟩ := el_m h k16 hv
    obtain ⟨he1, he2⟩ := he k (by omega)
    have e95 : ∀ (c : Int32) (u : zσ), f261_95 n r31 (f261_40 n r31 fu) (nI v) c (nI p) (nI k) u = f261_40 n r31 fu (nI v) c (nI p) (nI (k + 1)) u := by
      intro c u
      unfold f261_95
      rw [naddL]
    have eq1 : f261_40 n r31 (fu + 1) (nI v) (nI c) (nI p) (nI k) t = (if t.1 1240 k = 0 then f261_40 n r31 fu (nI v) (nI c) (nI p) (nI (k + 1)) t else if t.1 1244 k = nI v then (if nI (e k) = nI p then (if zin? (nI c) 16 = true then f261_40 n r31 fu (nI v) (nI (c + 1)) (nI p) (nI (k + 1)) (sI t 1247 (nx (nI c)) (nI k)) else none) else f261_40 n r31 fu (nI v) (nI c) (nI p) (nI (k + 1)) t) else f261_40 n r31 fu (nI v) (nI c) (nI p) (nI (k + 1)) t) := by
      rw [f261_40, m_209 h, gy1, nLmul, if_pos ((nltN (by omega) (by omega)).mpr (by omega)), if_pos z16, if_pos z16, nk, e2, m_262 h (show k / 2 < G 6 8 by omega), gy1, he1, e95, zlet, e95, naddL]
    have skip : ¬ (L k = true ∧ e k = p) → f261_40 n r31 (fu + 1) (nI v) (nI c) (nI p) (nI k) t = f261_40 n r31 fu (nI v) (nI c) (nI p) (nI (k + 1)) t → ∃ t2, f261_40 n r31 (fu + 1) (nI v) (nI c) (nI p) (nI k) t = r31 (nI v) (nI (c + (rowL L e p (m + 1) k).length)) (nI (p + 1)) t2 ∧ t2.2 = t.2 ∧ (∀ a, a ≠ 1247 → t2.1 a = t.1 a) ∧ (∀ a, a < (rowL L e p (m + 1) k).length → t2.1 1247 (c + a) = nI ((rowL L e p (m + 1) k).getD a 0)) ∧ (∀ a, a < c → t2.1 1247 a = t.1 1247 a) := by
      intro q eq
      have er : rowL L e p (m + 1) k = rowL L e p m (k + 1) := by rw [rowL, if_neg q]
      rw [eq, er]
      rw [er] at hc
      exact ih (k + 1) c fu t h (by omega) (by omega) hc
    by_cases w : el v k s
    · obtain ⟨w1, w2⟩ := m1 w
      rw [if_neg w1, if_pos w2] at eq1
      by_cases q : e k = p
      · have lk := (hL k (by omega)).mpr w
        have er : rowL L e p (m + 1) k = k :: rowL L e p m (k + 1) := by rw [rowL, if_pos ⟨lk, q⟩]
        rw [er, List.length_cons] at hc
        have zc : zin? (nI c) 16 = true := (zinN (by omega)).mpr (by omega)
        rw [if_pos (by rw [q]), if_pos zc, nxN (show c < 2 ^ 31 by omega)] at eq1
        have h2 : RUN G F W B C x y s (sI t 1247 c (nI k)) := RUNx_sc (t := t) scC_rf ⟨rfl, fun _ _ => rfl, fun a q _ q2 _ _ => by rw [hIo q2]⟩ h
        obtain ⟨t2, a1, a2, a3, a4, a5⟩ := ih (k + 1) (c + 1) fu _ h2 (by omega) (by omega) (by omega)
        rw [eq1, er, a1]
        refine ⟨t2, by rw [List.length_cons, show c + 1 + (rowL L e p m (k + 1)).length = c + ((rowL L e p m (k + 1)).length + 1) by omega], a2, fun a ha => by rw [a3 a ha, hIo ha], fun a ha => ?_, fun a ha => by rw [a5 a (by omega), hIk (by omega)]⟩
        cases a with
        | zero =>
          rw [Nat.add_zero, a5 c (by omega), hIe]
          rfl
        | succ a =>
          rw [List.length_cons] at ha
          rw [show c + (a + 1) = c + 1 + a by omega, a4 a (by omega)]
          rfl
      · rw [if_neg (fun w => q ((neqN he2 hp).mp w))] at eq1
        exact skip (fun w => q w.2) eq1
    · refine skip (fun q => w ((hL k (by omega)).mp q.1)) ?_
      rw [eq1]
      rcases m0 w with w1 | w1
      · rw [if_pos w1]
      · rw [if_neg w1]
        split <;> rfl
theorem all_m (hn : 1000 ≤ n) (hv : v < 4) (hL : ∀ k, k < 2 * G 6 8 → (L k = true ↔ el v k s)) (he : ∀ k, k < 2 * G 6 8 → ef x (k / 2) s = nI (e k) ∧ e k < 2 ^ 31) : ∀ r p c fu (t : zσ), RUN G F W B C x y s t → r + p = 10 → r < fu → c + (allL L e (2 * G 6 8) r p).length ≤ 16 → ∃ t2, f261_31 n fu (nI v) (nI c) (nI p) t = f261_109 n n (nI v) (nI (c + (allL L e (2 * G 6 8) r p).length)) 0 t2 ∧ t2.2 = t.2 ∧ (∀ a, a ≠ 1247 → t2.1 a = t.1 a) ∧ (∀ a, a < (allL L e (2 * G 6 8) r p).length → t2.1 1247 (c + a) = nI ((allL L e (2 * G 6 8) r p).getD a 0)) ∧ (∀ a, a < c → t2.1 1247 a = t.1 1247 a) := by
  intro r
  induction r with
  | zero =>
    intro p c fu t h hp hf hc
    obtain ⟨fu, rfl⟩ : ∃ f0, fu = f0 + 1 := ⟨fu - 1, by omega⟩
    refine ⟨t, ?_, rfl, fun _ _ => rfl, fun a ha => absurd ha (Nat.not_lt_zero _), fun _ _ => rfl⟩
    rw [f261_31, show p = 10 by omega, if_pos (by decide)]
    rfl
  | succ r ih =>
    intro p c fu t h hp hf hc
    have h88 := (h.2.1.1.1 8 (by decide)).2.2
    obtain ⟨fu, rfl⟩ : ∃ f0, fu = f0 + 1 := ⟨fu - 1, by omega⟩
    have er : allL L e (2 * G 6 8) (r + 1) p = rowL L e p (2 * G 6 8) 0 ++ allL L e (2 * G 6 8) r (p + 1) := rfl
    rw [er, List.length_append] at hc
    obtain ⟨t1, a1, a2, a3, a4, a5⟩ := row_m (n := n) (r31 := f261_31 n fu) (p := p) hv hL he (by omega) (2 * G 6 8) 0 c n t h (by omega) (by omega) (by omega)
    have h1 : RUN G F W B C x y s t1 := RUNx_sc (t := t) scC_rf ⟨by rw [a2], fun _ _ => by rw [a2], fun a q _ q2 _ _ => by rw [a3 a q2]⟩ h
    obtain ⟨t2, b1, b2, b3, b4, b5⟩ := ih (p + 1) (c + (rowL L e p (2 * G 6 8) 0).length) fu t1 h1 (by omega) (by omega) (by omega)
    refine ⟨t2, ?_, b2.trans a2, fun a ha => (b3 a ha).trans (a3 a ha), fun a ha => ?_, fun a ha => (b5 a (by omega)).trans (a5 a ha)⟩
    · rw [f261_31, if_neg (fun w => by have := (nltN (a := 9) (by decide) (by omega)).mp w; omega)]
      have a1' : f261_40 n (f261_31 n fu) n (nI v) (nI c) (nI p) 0 t = _ := a1
      rw [a1', b1, er, List.length_append, Nat.add_assoc]
    · rw [er] at ha ⊢
      rw [List.length_append] at ha
      by_cases q : a < (rowL L e p (2 * G 6 8) 0).length
      · rw [b5 (c + a) (by omega), a4 a q]
        congr 1
        rw [List.getD_eq_getElem?_getD, List.getD_eq_getElem?_getD, List.getElem?_append_left q]
      · have := b4 (a - (rowL L e p (2 * G 6 8) 0).length) (by omega)
        rw [show c + (rowL L e p (2 * G 6 8) 0).length + (a - (rowL L e p (2 * G 6 8) 0).length) = c + a by omega] at this
        rw [this]
        congr 1
        rw [List.getD_eq_getElem?_getD, List.getD_eq_getElem?_getD, List.getElem?_append_right (by omega)]
end ZCI
