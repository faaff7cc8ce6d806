/-! an irpt comes: both act -/
section ZCJ
variable {G W W2 : Nat → Nat → Nat} {F F2 : Nat → Nat → Nat → Nat} {B C C2 x y n i j o k v p : Nat} {s t s2 t2 : zσ} {L : Nat → Bool} {e : Nat → Nat}
theorem getD_cons {l : List Nat} {a b : Nat} : (b :: l).getD (a + 1) 0 = l.getD a 0 := rfl
/-- one priority, for both -/
theorem row_j {r39 : Int32 → Int32 → zσ → Option (Int32 × zσ)} {rest : List Nat} {cnt : Nat} (hn : 1000 ≤ n) (hv : v < 4) (hp : p < 2 ^ 31) (he2 : ∀ k, e k < 2 ^ 31) (hcnt : cnt ≤ 16) : ∀ m k fu fu2 i C (F : Nat → Nat → Nat → Nat) (W : Nat → Nat → Nat) (s t : zσ), RUN G F W B C x y s t → Nob n x s → (∀ k, k < 2 * G 6 8 → ef x (k / 2) s = nI (e k)) → (∀ k, k < 2 * G 6 8 → el v k s → L k = true) → k + m = 2 * G 6 8 → m < fu → C + m < 899999900 → (∀ a, a < (rowL L e p m k ++ rest).length → t.1 1247 (i + a) = nI ((rowL L e p m k ++ rest).getD a 0)) → i + (rowL L e p m k ++ rest).length = cnt → cnt < fu2 + i → ∃ s2 t2 F2 W2 C2, f121_47 n r39 fu (nI v) (nI p) (nI k) s = r39 (nI v) (nI (p + 1)) s2 ∧ f261_109 n fu2 (nI v) (nI cnt) (nI i) t = f261_109 n (fu2 - (rowL L e p m k).length) (nI v) (nI cnt) (nI (i + (rowL L e p m k).length)) t2 ∧ RUN G F2 W2 B C2 x y s2 t2 ∧ C2 ≤ C + (rowL L e p m k).length ∧ Nob n x s2 ∧ slF x s t s2 t2 := by
  intro m
  induction m with
  | zero =>
    intro k fu fu2 i C F W s t h hN hE hL hk hf hC hl hi hf2
    have h88 := (h.2.1.1.1 8 (by decide)).2.2
    have a12 : s.1 1007 12 = nI (G 6 8) := h.2.2.1.1.2.2.2.2.2.2.2.1
    obtain ⟨fu, rfl⟩ : ∃ f0, fu = f0 + 1 := ⟨fu - 1, by omega⟩
    refine ⟨s, t, F, W, C, ?_, rfl, h, Nat.le_refl _, hN, slF_rf⟩
    rw [f121_47, a12, nLmul, show k = 2 * G 6 8 by omega, if_neg Int32.lt_irrefl, naddL]
  | succ m ih =>
    intro k fu fu2 i C F W s t h hN hE hL hk hf hC hl hi hf2
    have h88 := (h.2.1.1.1 8 (by decide)).2.2
    have a12 : s.1 1007 12 = nI (G 6 8) := h.2.2.1.1.2.2.2.2.2.2.2.1
    obtain ⟨fu, rfl⟩ : ∃ f0, fu = f0 + 1 := ⟨fu - 1, by omega⟩
    have k16 : k < 16 := by omega
    have hk2 : k < 2 * G 6 8 := by omega
    have ho : k / 2 < 8 := by omega
    have z16 : zin? (nI k) 16 = true := (zinN (by omega)).mpr k16
    have z8 : zin? (nI (k / 2)) 8 = true := (zinN (by omega)).mpr ho
    have nk := nxN (show k < 2 ^ 31 by omega)
    have e2 : nI k / 2 = nI (k / 2) := (half16 ⟨k, k16⟩).1
    obtain ⟨hxx, -, ⟨r8, -⟩, -, -, -, rt⟩ := id h.1
    obtain ⟨k9, k6, k0⟩ := gck9 hxx
    have i0 : s.1 (1036 + 3 * (k / 2)) 0 = nI (k / 2) := (h.2.2.2.2.1 (k / 2) ho (by omega)).1.1
    have e138 : ∀ u : zσ, f121_138 n r39 (f121_47 n r39 fu) (nI v) (nI p) (nI k) u = f121_47 n r39 fu (nI v) (nI p) (nI (k + 1)) u := by
      intro u
      unfold f121_138
      rw [naddL]
    have eC : f121_47 n r39 (fu + 1) (nI v) (nI p) (nI k) s = (if nI (e k) = nI p then (if s.1 1023 k = -2000000000 then (if s.1 1026 k = nI v then yb1 (f87 n (nI k) s) fun v2 u1 => f121_47 n r39 fu (nI v) (nI p) (nI (k + 1)) u1 else f121_47 n r39 fu (nI v) (nI p) (nI (k + 1)) s) else f121_47 n r39 fu (nI v) (nI p) (nI (k + 1)) s) else f121_47 n r39 fu (nI v) (nI p) (nI (k + 1)) s) := by
      have e96 : f121_47 n r39 (fu + 1) (nI v) (nI p) (nI k) s = f121_96 n r39 (f121_47 n r39 fu) (nI v) (nI p) (nI k) (nI (e k)) s := by
        rw [f121_47, a12, nLmul, if_pos ((nltN (by omega) (by omega)).mpr (by omega)), e2, if_pos z8, nxN (show k / 2 < 2 ^ 31 by omega), rt _ ho, grd (gck8 ho), r8, grd k9, i0, if_pos z8, nxN (show k / 2 < 2 ^ 31 by omega), ← hE k hk2]
        unfold ef
        split <;> rfl
      rw [e96]
      unfold f121_96
      simp only [if_pos z16, nk, e138]
    have skipC : ¬ (e k = p ∧ el v k s) → f121_47 n r39 (fu + 1) (nI v) (nI p) (nI k) s = f121_47 n r39 fu (nI v) (nI p) (nI (k + 1)) s := by
      intro q
      rw [eC]
      split
      · next w1 =>
        split
        · next w2 =>
          split
          · next w3 => exact absurd ⟨(neqN (he2 k) hp).mp w1, w2, w3⟩ q
          · rfl
        · rfl
      · rfl
    by_cases q : L k = true ∧ e k = p
    · have er : rowL L e p (m + 1) k = k :: rowL L e p m (k + 1) := by rw [rowL, if_pos q]
      rw [er] at hl hi ⊢
      have hlen : (k :: rowL L e p m (k + 1) ++ rest).length = (rowL L e p m (k + 1) ++ rest).length + 1 := rfl
      rw [hlen] at hi hl
      have hd : t.1 1247 i = nI k := hl 0 (by omega)
      have hl2 : ∀ a, a < (rowL L e p m (k + 1) ++ rest).length → t.1 1247 (i + 1 + a) = nI ((rowL L e p m (k + 1) ++ rest).getD a 0) := fun a ha => by
        have := hl (a + 1) (by omega)
        rw [show i + 1 + a = i + (a + 1) by omega, this]
        rfl
      obtain ⟨fu2, rfl⟩ : ∃ f0, fu2 = f0 + 1 := ⟨fu2 - 1, by omega⟩
      have zi : zin? (nI i) 16 = true := (zinN (by omega)).mpr (by omega)
      have e153 : ∀ u : zσ, f261_153 n (f261_109 n fu2) (nI v) (nI cnt) (nI i) u = f261_109 n fu2 (nI v) (nI cnt) (nI (i + 1)) u := by
        intro u
        unfold f261_153
        rw [naddL]
      have eM : f261_109 n (fu2 + 1) (nI v) (nI cnt) (nI i) t = (if t.1 1240 k = 0 then f261_109 n fu2 (nI v) (nI cnt) (nI (i + 1)) t else if t.1 1244 k = nI v then yb0 (f224 n (nI k) t) fun u1 => f261_109 n fu2 (nI v) (nI cnt) (nI (i + 1)) u1 else f261_109 n fu2 (nI v) (nI cnt) (nI (i + 1)) t) := by
        rw [f261_109, if_pos ((nltN (by omega) (by omega)).mpr (by omega)), if_pos zi, nxN (show i < 2 ^ 31 by omega), hd, if_pos z16, nk, if_pos zi, if_pos z16, if_pos zi]
        simp only [e153]
      have fin : ∀ (C1 : Nat) (F1 : Nat → Nat → Nat → Nat) (W1 : Nat → Nat → Nat) (s1 t1 : zσ), RUN G F1 W1 B C1 x y s1 t1 → C1 ≤ C + 1 → Nob n x s1 → slF x s t s1 t1 → f121_47 n r39 (fu + 1) (nI v) (nI p) (nI k) s = f121_47 n r39 fu (nI v) (nI p) (nI (k + 1)) s1 → f261_109 n (fu2 + 1) (nI v) (nI cnt) (nI i) t = f261_109 n fu2 (nI v) (nI cnt) (nI (i + 1)) t1 → ∃ s2 t2 F2 W2 C2, f121_47 n r39 (fu + 1) (nI v) (nI p) (nI k) s = r39 (nI v) (nI (p + 1)) s2 ∧ f261_109 n (fu2 + 1) (nI v) (nI cnt) (nI i) t = f261_109 n (fu2 + 1 - (k :: rowL L e p m (k + 1)).length) (nI v) (nI cnt) (nI (i + (k :: rowL L e p m (k + 1)).length)) t2 ∧ RUN G F2 W2 B C2 x y s2 t2 ∧ C2 ≤ C + (k :: rowL L e p m (k + 1)).length ∧ Nob n x s2 ∧ slF x s t s2 t2 := by
        intro C1 F1 W1 s1 t1 r1 r2 r3 r4 r5 r6
        obtain ⟨g1, g2, g3, g4, g5, g6⟩ := id r4
        have x47 : t1.1 1247 = t.1 1247 := g4 1247 (Or.inl rfl)
        obtain ⟨s2, t2, F2, W2, C2, a1, a2, a3, a4, a5, a6⟩ := ih (k + 1) fu fu2 (i + 1) C1 F1 W1 s1 t1 r1 r3 (fun k' hk' => by rw [g1 _ (by omega)]; exact hE k' hk') (fun k' hk' w => hL k' hk' ⟨by
          rcases g2 k' with w2 | w2
          · rw [← w2]; exact w.1
          · have := w.1
            rw [w2] at this
            exact absurd this (by decide), by rw [← g3 1026 (by omega)]; exact w.2⟩) (by omega) (by omega) (by omega) (fun a ha => by rw [x47]; exact hl2 a ha) (by omega) (by omega)
        rw [List.length_cons]
        refine ⟨s2, t2, F2, W2, C2, by rw [r5, a1], ?_, a3, by omega, a5, slF_tr r4 a6⟩
        rw [r6, a2, show fu2 + 1 - ((rowL L e p m (k + 1)).length + 1) = fu2 - (rowL L e p m (k + 1)).length by omega, show i + ((rowL L e p m (k + 1)).length + 1) = i + 1 + (rowL L e p m (k + 1)).length by omega]
      obtain ⟨m1, m0⟩ := el_m h k16 hv
      by_cases w : el v k s
      · obtain ⟨w1, w2⟩ := m1 w
        obtain ⟨c, s1, t1, F1, W1, C1, b1, b2, b3, b4, b5, b6⟩ := slot_ok hn (by omega) h hN hk2
        refine fin C1 F1 W1 s1 t1 b3 b4 b5 b6 ?_ ?_
        · rw [eC, if_pos (by rw [q.2]), if_pos w.1, if_pos w.2, b1, gy1]
        · rw [eM, if_neg w1, if_pos w2, b2, gy0]
      · refine fin C F W s t h (by omega) hN slF_rf (skipC (fun q2 => w q2.2)) ?_
        rw [eM]
        rcases m0 w with w1 | w1
        · rw [if_pos w1]
        · rw [if_neg w1]
          split <;> rfl
    · have er : rowL L e p (m + 1) k = rowL L e p m (k + 1) := by rw [rowL, if_neg q]
      rw [er] at hl hi ⊢
      rw [skipC (fun q2 => q ⟨hL k hk2 q2.2, q2.1⟩)]
      exact ih (k + 1) fu fu2 i C F W s t h hN hE hL (by omega) (by omega) (by omega) hl hi hf2
/-- all priorities -/
theorem all_j {cnt : Nat} (hn : 1000 ≤ n) (hv : v < 4) (he2 : ∀ k, e k < 2 ^ 31) (hcnt : cnt ≤ 16) : ∀ r p fu fu2 i C (F : Nat → Nat → Nat → Nat) (W : Nat → Nat → Nat) (s t : zσ), RUN G F W B C x y s t → Nob n x s → (∀ k, k < 2 * G 6 8 → ef x (k / 2) s = nI (e k)) → (∀ k, k < 2 * G 6 8 → el v k s → L k = true) → r + p = 10 → r < fu → C + 20 * r + 100 < 899999900 → (∀ a, a < (allL L e (2 * G 6 8) r p).length → t.1 1247 (i + a) = nI ((allL L e (2 * G 6 8) r p).getD a 0)) → i + (allL L e (2 * G 6 8) r p).length = cnt → cnt < fu2 + i → ∃ s2 t2 F2 W2 C2, f121_39 n fu (nI v) (nI p) s = some (1, s2) ∧ f261_109 n fu2 (nI v) (nI cnt) (nI i) t = some t2 ∧ RUN G F2 W2 B C2 x y s2 t2 ∧ C2 ≤ C + (allL L e (2 * G 6 8) r p).length ∧ Nob n x s2 ∧ slF x s t s2 t2 := by
  intro r
  induction r with
  | zero =>
    intro p fu fu2 i C F W s t h hN hE hL hp hf hC hl hi hf2
    obtain ⟨fu, rfl⟩ : ∃ f0, fu = f0 + 1 := ⟨fu - 1, by omega⟩
    obtain ⟨fu2, rfl⟩ : ∃ f0, fu2 = f0 + 1 := ⟨fu2 - 1, by omega⟩
    refine ⟨s, t, F, W, C, ?_, ?_, h, Nat.le_refl _, hN, slF_rf⟩
    · rw [f121_39, show p = 10 by omega, if_pos (by decide)]
    · have : i = cnt := by
        have e0 : (allL L e (2 * G 6 8) 0 p).length = 0 := rfl
        omega
      rw [f261_109, this, if_neg Int32.lt_irrefl]
  | succ r ih =>
    intro p fu fu2 i C F W s t h hN hE hL hp hf hC hl hi hf2
    have h88 := (h.2.1.1.1 8 (by decide)).2.2
    obtain ⟨fu, rfl⟩ : ∃ f0, fu = f0 + 1 := ⟨fu - 1, by omega⟩
    have er : allL L e (2 * G 6 8) (r + 1) p = rowL L e p (2 * G 6 8) 0 ++ allL L e (2 * G 6 8) r (p + 1) := rfl
    rw [er] at hl hi ⊢
    obtain ⟨s1, t1, F1, W1, C1, a1, a2, a3, a4, a5, a6⟩ := row_j (r39 := f121_39 n fu) (p := p) (L := L) (e := e) hn hv (by omega) he2 hcnt (2 * G 6 8) 0 n fu2 i C F W s t h hN hE hL (by omega) (by omega) (by omega) hl hi hf2
    rw [List.length_append] at hi hl ⊢
    obtain ⟨g1, g2, g3, g4, g5, g6⟩ := id a6
    have x47 : t1.1 1247 = t.1 1247 := g4 1247 (Or.inl rfl)
    have rl : (rowL L e p (2 * G 6 8) 0).length ≤ 16 := by omega
    obtain ⟨s2, t2, F2, W2, C2, b1, b2, b3, b4, b5, b6⟩ := ih (p + 1) fu (fu2 - (rowL L e p (2 * G 6 8) 0).length) (i + (rowL L e p (2 * G 6 8) 0).length) C1 F1 W1 s1 t1 a3 a5 (fun k' hk' => by rw [g1 _ (by omega)]; exact hE k' hk') (fun k' hk' w => hL k' hk' ⟨by
          rcases g2 k' with w2 | w2
          · rw [← w2]; exact w.1
          · have := w.1
            rw [w2] at this
            exact absurd this (by decide), by rw [← g3 1026 (by omega)]; exact w.2⟩) (by omega) (by omega) (by omega) (fun a ha => by
      have := hl ((rowL L e p (2 * G 6 8) 0).length + a) (by omega)
      rw [x47, Nat.add_assoc, this]
      congr 1
      rw [List.getD_eq_getElem?_getD, List.getD_eq_getElem?_getD, List.getElem?_append_right (by omega), Nat.add_sub_cancel_left]) (by omega) (by omega)
    refine ⟨s2, t2, F2, W2, C2, ?_, by rw [a2, b2], b3, by omega, b5, slF_tr a6 b6⟩
    rw [f121_39, if_neg (fun w => by have := (nltN (a := 9) (by decide) (by omega)).mp w; omega)]
    have a1' : f121_47 n (f121_39 n fu) n (nI v) (nI p) 0 s = _ := a1
    rw [a1', b1]
end ZCJ
