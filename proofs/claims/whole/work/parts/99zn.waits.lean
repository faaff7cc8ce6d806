/-! who waits for what: the answer of waits -/
section ZCU
variable {G W W2 : Nat → Nat → Nat} {F F2 : Nat → Nat → Nat → Nat} {B C B2 C2 x y n i j o k v p D r N P g z q : Nat} {s t s2 t2 s' t' : zσ} {a b : Nat → Nat} {S K : Int32} {fb : Nat → Bool}
theorem fw_ok (hn : 1000 ≤ n) (h : RUN G F W B C x y s t) (hj : j < 8) (hq : q < 4) (hs : S = 2 ∨ S = 3 ∨ S = 5) : (wT j s ∧ f148 n (1036 + 3 * j) S (nI q) s = some (1, s) ∧ f279 n (nI j) S (nI q) t = some (1, t)) ∨ (f148 n (1036 + 3 * j) S (nI q) s = some (0, s) ∧ (wT j s → f279 n (nI j) S (nI q) t = some (0, t))) := by
  obtain ⟨m1, m0⟩ := m_228 (n := n) h hj
  by_cases w : wT j s
  · obtain ⟨q0, d, a1, a2, a3, a4, a5, a6, a7, a8, a9⟩ := at_w (n := n) h hj w
    have h88 := (h.2.1.1.1 8 (by decide)).2.2
    obtain ⟨⟨hxx, hyy, -, r9, -, r11, -⟩, ⟨hN, -, -, hS⟩, -⟩ := id h
    obtain ⟨k9, k6, k0⟩ := gck9 hxx
    have k12 := gck12 hyy
    have zq : zin? (nI q0) 200 = true := (zinN (by omega)).mpr a2
    have zd : zin? (nI d) 1120 = true := (zinN (by omega)).mpr a6
    have nq := nxN (show q0 < 2 ^ 31 by omega)
    obtain ⟨⟨-, -, s20, s15⟩, -, hO⟩ := hS q0 a1
    have e20 : s.1 (x + 19 + 1) q0 = s.1 (x + 20) q0 := rfl
    have e21 : s.1 (x + 19 + 2) q0 = s.1 (x + 21) q0 := rfl
    have e110 : f148_110 n (nI q) (nI q0) 1 s = (if s.1 (x + 21) q0 = nI q then some ((1 : Int32), s) else some ((0 : Int32), s)) := by
      unfold f148_110
      rw [if_neg (by decide), r9, grd k6, if_pos zq, nq, e21]
    have e110' : f148_110 n (nI q) (nI q0) 0 s = some ((0 : Int32), s) := by
      unfold f148_110
      rw [if_pos rfl]
    have eC : f148 n (1036 + 3 * j) S (nI q) s = (if S = 2 then (if s.1 (x + 20) q0 = 159 then (yb1 (f109 n (s.1 (x + 21) q0) (nI q) s) fun v8 u7 => if (0 : Int32) < v8 then some ((1 : Int32), u7) else some ((0 : Int32), u7)) else some ((0 : Int32), s)) else if S = 5 then (if s.1 (x + 20) q0 = 165 then f148_110 n (nI q) (nI q0) 1 s else some ((0 : Int32), s)) else if s.1 (x + 20) q0 = 161 then f148_110 n (nI q) (nI q0) 1 s else if s.1 (x + 20) q0 = 163 then f148_110 n (nI q) (nI q0) 1 s else some ((0 : Int32), s)) := by
      unfold f148 f148_105
      rw [(m1 w).2, gy1, if_neg (by decide), if_pos a3, zlet, a4, r9, grd k6, if_pos zq, zlet, nq, e20, grd k6, if_pos zq, e21, e110']
    have eM : f279 n (nI j) S (nI q) t = (if S = 2 then (if t.1 (y + 15) q0 = 10 then (yb1 (f232 n (nI q0) (nI q) t) fun v7 u6 => if (0 : Int32) < v7 then some ((1 : Int32), u6) else some ((0 : Int32), u6)) else some ((0 : Int32), t)) else if S = 3 then (if t.1 (y + 15) q0 = 12 then f279_91 n (nI q) (nI q0) 1 t else if t.1 (y + 15) q0 = 14 then f279_91 n (nI q) (nI q0) 1 t else some ((0 : Int32), t)) else if t.1 (y + 15) q0 = 23 then f279_91 n (nI q) (nI q0) 1 t else some ((0 : Int32), t)) := by
      have e0 : f279_91 n (nI q) (nI q0) 0 t = some ((0 : Int32), t) := by
        unfold f279_91
        rw [if_pos rfl]
      unfold f279 f279_71
      rw [a5, gy1, if_pos zd, zlet, nxN (show d < 2 ^ 31 by omega), a7, r11, grd k12, if_pos zq, zlet, nq, e0]
    have e91 : ∀ u v, u < 1400 → t.1 (y + 17) q0 = nI u → t.1 (y + 33) u = nI v → f279_91 n (nI q) (nI q0) 1 t = (if nI v = nI q then some ((1 : Int32), t) else some ((0 : Int32), t)) := by
      intro u v hu e17 e33
      unfold f279_91
      rw [if_neg (by decide), r11, grd k12, grd k12, if_pos zq, nq, e17, if_pos ((zinN (by omega)).mpr hu), nxN (show u < 2 ^ 31 by omega), e33]
    have no : f148 n (1036 + 3 * j) S (nI q) s = some (0, s) → f279 n (nI j) S (nI q) t = some (0, t) → (wT j s ∧ f148 n (1036 + 3 * j) S (nI q) s = some (1, s) ∧ f279 n (nI j) S (nI q) t = some (1, t)) ∨ (f148 n (1036 + 3 * j) S (nI q) s = some (0, s) ∧ (wT j s → f279 n (nI j) S (nI q) t = some (0, t))) := fun e1 e2 => Or.inr ⟨e1, fun _ => e2⟩
    have both : ∀ c : Prop, [Decidable c] → f148 n (1036 + 3 * j) S (nI q) s = (if c then some ((1 : Int32), s) else some ((0 : Int32), s)) → f279 n (nI j) S (nI q) t = (if c then some ((1 : Int32), t) else some ((0 : Int32), t)) → (wT j s ∧ f148 n (1036 + 3 * j) S (nI q) s = some (1, s) ∧ f279 n (nI j) S (nI q) t = some (1, t)) ∨ (f148 n (1036 + 3 * j) S (nI q) s = some (0, s) ∧ (wT j s → f279 n (nI j) S (nI q) t = some (0, t))) := by
      intro c _ e1 e2
      by_cases hc : c
      · rw [if_pos hc] at e1 e2
        exact Or.inl ⟨w, e1, e2⟩
      · rw [if_neg hc] at e1 e2
        exact Or.inr ⟨e1, fun _ => e2⟩
    rcases a9 with k | k | k | k
    · obtain ⟨⟨l, hl1, hl2, e21l, e20m, hlu, e17⟩, -⟩ := tO_10 k hO
      have s20' : s.1 (x + 20) q0 = 159 := by rw [s20, k]; rfl
      have s15' : t.1 (y + 15) q0 = 10 := by rw [s15, k]; rfl
      have hm := hN.2.1
      have lv4 : ∀ v, v ∈ l → v < 4 := fun v hv => by have := hl2 v hv; omega
      have lv8 : ∀ v, v ∈ l → v < 8 := fun v hv => by have := lv4 v hv; omega
      rw [s20'] at eC
      rw [s15'] at eM
      rcases hs with hs | hs | hs
      · refine both (0 < nI (zcn l q)) ?_ ?_
        · rw [eC, if_pos hs, if_pos rfl, e21l, c_109 (by omega) hl1 lv4 hq, gy1]
        · rw [eM, if_pos hs, if_pos rfl, m_232 (by omega) hyy r11 a2 hl1 lv8 hq e20m hlu, gy1]
      · exact no (by rw [eC, hs, if_neg (by decide), if_neg (by decide), if_neg (by decide), if_neg (by decide)]) (by rw [eM, hs, if_neg (by decide), if_pos rfl, if_neg (by decide), if_neg (by decide)])
      · exact no (by rw [eC, hs, if_neg (by decide), if_pos rfl, if_neg (by decide)]) (by rw [eM, hs, if_neg (by decide), if_neg (by decide), if_neg (by decide)])
    · obtain ⟨⟨u, v, hu, hv, e17, e33, e21v⟩, -⟩ := tO_12 k hO
      have s20' : s.1 (x + 20) q0 = 161 := by rw [s20, k]; rfl
      have s15' : t.1 (y + 15) q0 = 12 := by rw [s15, k]; rfl
      rw [s20', e110, e21v] at eC
      rw [s15', e91 u v hu e17 e33] at eM
      rcases hs with hs | hs | hs
      · exact no (by rw [eC, hs, if_pos rfl, if_neg (by decide)]) (by rw [eM, hs, if_pos rfl, if_neg (by decide)])
      · exact both (nI v = nI q) (by rw [eC, hs, if_neg (by decide), if_neg (by decide), if_pos rfl]) (by rw [eM, hs, if_neg (by decide), if_pos rfl, if_pos rfl])
      · exact no (by rw [eC, hs, if_neg (by decide), if_pos rfl, if_neg (by decide)]) (by rw [eM, hs, if_neg (by decide), if_neg (by decide), if_neg (by decide)])
    · obtain ⟨⟨u, v, hu, hv, e17, e33, e21v⟩, -⟩ := tO_14 k hO
      have s20' : s.1 (x + 20) q0 = 163 := by rw [s20, k]; rfl
      have s15' : t.1 (y + 15) q0 = 14 := by rw [s15, k]; rfl
      rw [s20', e110, e21v] at eC
      rw [s15', e91 u v hu e17 e33] at eM
      rcases hs with hs | hs | hs
      · exact no (by rw [eC, hs, if_pos rfl, if_neg (by decide)]) (by rw [eM, hs, if_pos rfl, if_neg (by decide)])
      · exact both (nI v = nI q) (by rw [eC, hs, if_neg (by decide), if_neg (by decide), if_neg (by decide), if_pos rfl]) (by rw [eM, hs, if_neg (by decide), if_pos rfl, if_neg (by decide), if_pos rfl])
      · exact no (by rw [eC, hs, if_neg (by decide), if_pos rfl, if_neg (by decide)]) (by rw [eM, hs, if_neg (by decide), if_neg (by decide), if_neg (by decide)])
    · obtain ⟨⟨u, v, hu, hv, e17, e33, e21v⟩, -⟩ := tO_23 k hO
      have s20' : s.1 (x + 20) q0 = 165 := by rw [s20, k]; rfl
      have s15' : t.1 (y + 15) q0 = 23 := by rw [s15, k]; rfl
      rw [s20', e110, e21v] at eC
      rw [s15', e91 u v hu e17 e33] at eM
      rcases hs with hs | hs | hs
      · exact no (by rw [eC, hs, if_pos rfl, if_neg (by decide)]) (by rw [eM, hs, if_pos rfl, if_neg (by decide)])
      · exact no (by rw [eC, hs, if_neg (by decide), if_neg (by decide), if_neg (by decide), if_neg (by decide)]) (by rw [eM, hs, if_neg (by decide), if_pos rfl, if_neg (by decide), if_neg (by decide)])
      · exact both (nI v = nI q) (by rw [eC, hs, if_neg (by decide), if_pos rfl, if_pos rfl]) (by rw [eM, hs, if_neg (by decide), if_neg (by decide), if_pos rfl])
  · refine Or.inr ⟨?_, fun w' => absurd w' w⟩
    unfold f148
    rw [(m0 w).2, gy1, if_pos rfl]
/-- how many that wait for it are ahead -/
def rkw (fb : Nat → Bool) (N i : Nat) (s : zσ) : Nat := zct (fun j => fb j && decide (s.1 (1036 + 3 * j) 4 < s.1 (1036 + 3 * i) 4 ∨ (s.1 (1036 + 3 * j) 4 = s.1 (1036 + 3 * i) 4 ∧ s.1 (1036 + 3 * j) 12 < s.1 (1036 + 3 * i) 12))) N 0
theorem rkw_d {u : Nat} : (fb u && decide (s.1 (1036 + 3 * u) 4 < s.1 (1036 + 3 * i) 4 ∨ (s.1 (1036 + 3 * u) 4 = s.1 (1036 + 3 * i) 4 ∧ s.1 (1036 + 3 * u) 12 < s.1 (1036 + 3 * i) 12))) = true ↔ (fb u = true ∧ zQ u i s) := by
  rw [Bool.and_eq_true]
  constructor
  · intro w
    have := of_decide_eq_true w.2
    exact ⟨w.1, this⟩
  · intro w
    have h2 : s.1 (1036 + 3 * u) 4 < s.1 (1036 + 3 * i) 4 ∨ (s.1 (1036 + 3 * u) 4 = s.1 (1036 + 3 * i) 4 ∧ s.1 (1036 + 3 * u) 12 < s.1 (1036 + 3 * i) 12) := w.2
    exact ⟨w.1, decide_eq_true h2⟩
theorem rkw_lt {a b : Nat} (ha : a < N) (wa : fb a = true) (o : zQ a b s) : rkw fb N a s < rkw fb N b s := by
  refine zct_lt (e := a) N 0 (fun k _ _ w => ?_) (Nat.zero_le _) (by omega) (fun w => ?_) ?_
  · have := rkw_d.mp w
    exact rkw_d.mpr ⟨this.1, zQ_tr this.2 o⟩
  · exact zQ_irr (rkw_d.mp w).2
  · exact rkw_d.mpr ⟨wa, o⟩
/-- the class's answer: the one with K ahead -/
theorem c_wl (h : RUN G F W B C x y s t) (hf : ∀ j, j < 8 → (fb j = true ∧ wT j s ∧ f148 n (1036 + 3 * j) S (nI q) s = some (1, s)) ∨ (fb j = false ∧ f148 n (1036 + 3 * j) S (nI q) s = some (0, s))) {r3 : Int32 → Int32 → Int32 → Int32 → zσ → Option (Int32 × zσ)} (hi : i < 8) (wi : wT i s) : ∀ m j fu c, j + m = G 6 8 → m < fu → f147_37 n r3 fu S (nI q) K (nI i) (nI c) (nI j) s = (if nI (c + zct (fun j => fb j && decide (s.1 (1036 + 3 * j) 4 < s.1 (1036 + 3 * i) 4 ∨ (s.1 (1036 + 3 * j) 4 = s.1 (1036 + 3 * i) 4 ∧ s.1 (1036 + 3 * j) 12 < s.1 (1036 + 3 * i) 12))) m j) = K then some (nI i, s) else f147_100 n r3 S (nI q) K (nI i) s) := by
  have h88 := (h.2.1.1.1 8 (by decide)).2.2
  have rt := h.1.2.2.2.2.2.2
  have a12 : s.1 1007 12 = nI (G 6 8) := h.2.2.1.1.2.2.2.2.2.2.2.1
  have zi : zin? (nI i) 8 = true := (zinN (by omega)).mpr hi
  intro m
  induction m with
  | zero =>
    intro j fu c hj hfu
    obtain ⟨fu, rfl⟩ : ∃ f0, fu = f0 + 1 := ⟨fu - 1, by omega⟩
    rw [f147_37, a12, show j = G 6 8 by omega, if_neg Int32.lt_irrefl]
    rfl
  | succ m ih =>
    intro j fu c hj hfu
    obtain ⟨fu, rfl⟩ : ∃ f0, fu = f0 + 1 := ⟨fu - 1, by omega⟩
    have hj8 : j < 8 := by omega
    have z8 : zin? (nI j) 8 = true := (zinN (by omega)).mpr hj8
    have e85 : ∀ c, f147_85 n r3 (f147_37 n r3 fu) S (nI q) K (nI i) c (nI j) s = f147_37 n r3 fu S (nI q) K (nI i) c (nI (j + 1)) s := by
      intro c; unfold f147_85; rw [naddL]
    have up : ∀ P : Nat → Bool, P j = true → c + zct P (m + 1) j = c + 1 + zct P m (j + 1) := fun P h => by rw [zct, if_pos h]; omega
    have no : ∀ P : Nat → Bool, ¬ P j = true → c + zct P (m + 1) j = c + zct P m (j + 1) := fun P h => by rw [zct, if_neg h]; omega
    rw [f147_37, a12, if_pos ((nltN (by omega) (by omega)).mpr (by omega)), if_pos z8, nxN (show j < 2 ^ 31 by omega), rt j hj8, grd (gck8 hj8)]
    rcases hf j hj8 with ⟨f1, f2, f3⟩ | ⟨f1, f3⟩
    · rw [f3, gy1, if_neg (by decide), if_pos z8, rt j hj8, grd (gck8 hj8), if_pos zi, nxN (show i < 2 ^ 31 by omega), rt i hi, grd (gck8 hi)]
      rcases ord_ok (n := n) h hj8 hi f2 wi with ⟨o, o1, -⟩ | ⟨o, o1, -⟩
      · rw [o1, gy1, if_neg (by decide), e85, naddL, up _ (rkw_d.mpr ⟨f1, o⟩)]
        exact ih (j + 1) fu (c + 1) (by omega) (by omega)
      · rw [o1, gy1, if_pos rfl, e85, no _ (fun w => o (rkw_d.mp w).2)]
        exact ih (j + 1) fu c (by omega) (by omega)
    · rw [f3, gy1, if_pos rfl, e85, no _ (fun w => by have := (rkw_d.mp w).1; rw [f1] at this; cases this)]
      exact ih (j + 1) fu c (by omega) (by omega)
/-- the one that is told -/
def wA (fb : Nat → Bool) (N : Nat) (K : Int32) (s : zσ) (m : Nat) : Option Nat → Prop
  | none => ∀ j, m ≤ j → j < N → fb j = true → ¬ nI (rkw fb N j s) = K
  | some j => m ≤ j ∧ j < N ∧ fb j = true ∧ nI (rkw fb N j s) = K
theorem c_wo (hn : 1000 ≤ n) (h : RUN G F W B C x y s t) (hf : ∀ j, j < 8 → (fb j = true ∧ wT j s ∧ f148 n (1036 + 3 * j) S (nI q) s = some (1, s)) ∨ (fb j = false ∧ f148 n (1036 + 3 * j) S (nI q) s = some (0, s))) : ∀ m j fu, j + m = G 6 8 → m < fu → ∃ b, wA fb (G 6 8) K s j b ∧ f147_3 n fu S (nI q) K (nI j) s = some (enc b, s) := by
  have h88 := (h.2.1.1.1 8 (by decide)).2.2
  have rt := h.1.2.2.2.2.2.2
  have a12 : s.1 1007 12 = nI (G 6 8) := h.2.2.1.1.2.2.2.2.2.2.2.1
  intro m
  induction m with
  | zero =>
    intro j fu hj hfu
    obtain ⟨fu, rfl⟩ : ∃ f0, fu = f0 + 1 := ⟨fu - 1, by omega⟩
    refine ⟨none, fun k k1 k2 => by omega, ?_⟩
    rw [f147_3, a12, show j = G 6 8 by omega, if_neg Int32.lt_irrefl]
    rfl
  | succ m ih =>
    intro j fu hj hfu
    obtain ⟨fu, rfl⟩ : ∃ f0, fu = f0 + 1 := ⟨fu - 1, by omega⟩
    have hj8 : j < 8 := by omega
    have z8 : zin? (nI j) 8 = true := (zinN (by omega)).mpr hj8
    have e100 : f147_100 n (f147_3 n fu) S (nI q) K (nI j) s = f147_3 n fu S (nI q) K (nI (j + 1)) s := by
      unfold f147_100; rw [naddL]
    obtain ⟨b, b1, b2⟩ := ih (j + 1) fu (by omega) (by omega)
    have skip : (fb j = true → ¬ nI (rkw fb (G 6 8) j s) = K) → wA fb (G 6 8) K s j b := by
      intro w
      cases b with
      | none =>
        intro k k1 k2 k3
        by_cases e : k = j
        · subst e; exact w k3
        · exact b1 k (by omega) k2 k3
      | some k => exact ⟨by have := b1.1; omega, b1.2⟩
    rw [f147_3, a12, if_pos ((nltN (by omega) (by omega)).mpr (by omega)), if_pos z8, nxN (show j < 2 ^ 31 by omega), rt j hj8, grd (gck8 hj8)]
    rcases hf j hj8 with ⟨f1, f2, f3⟩ | ⟨f1, f3⟩
    · have e1 := c_wl (n := n) (S := S) (q := q) (K := K) (r3 := f147_3 n fu) h hf hj8 f2 (G 6 8) 0 n 0 (Nat.zero_add _) (by omega)
      rw [Nat.zero_add, e100] at e1
      have er : zct (fun u => fb u && decide (s.1 (1036 + 3 * u) 4 < s.1 (1036 + 3 * j) 4 ∨ (s.1 (1036 + 3 * u) 4 = s.1 (1036 + 3 * j) 4 ∧ s.1 (1036 + 3 * u) 12 < s.1 (1036 + 3 * j) 12))) (G 6 8) 0 = rkw fb (G 6 8) j s := rfl
      rw [er] at e1
      have e1' : f147_37 n (f147_3 n fu) n S (nI q) K (nI j) 0 0 s = _ := e1
      rw [f3, gy1, if_neg (by decide), e1']
      by_cases w : nI (rkw fb (G 6 8) j s) = K
      · rw [if_pos w]
        exact ⟨some j, ⟨Nat.le_refl _, by omega, f1, w⟩, rfl⟩
      · rw [if_neg w]
        exact ⟨b, skip (fun _ => w), b2⟩
    · rw [f3, gy1, if_pos rfl, e100]
      exact ⟨b, skip (fun w => by rw [f1] at w; cases w), b2⟩
end ZCU
