/-! what a statement does to vars, rows, gates; the acts, first part -/
section ZAC
variable {G W : Nat → Nat → Nat} {F : Nat → Nat → Nat → Nat} {B C x y n i D r : Nat} {s t s2 t2 : zσ}
theorem hsI_id {s : zσ} {a k : Nat} {v : Int32} (h : s.1 a k = v) : sI s a k v = s := by
  have e : (sI s a k v).1 = s.1 := by
    funext b j
    rw [gI]
    split
    · next q => rw [q.1, q.2, h]
    · rfl
  exact Prod.ext e rfl
/-- only the store, gates, timetable, diary change -/
def qC (s s2 : zσ) : Prop := s2.2 = s.2 ∧ ∀ a, a < 1009 ∨ 1031 < a → s2.1 a = s.1 a
def qM (t t2 : zσ) : Prop := t2.2 = t.2 ∧ (∀ a, a ≠ 1132 → (a < 1207 ∨ 1221 < a) → (a < 1240 ∨ 1244 < a) → t2.1 a = t.1 a) ∧ t2.1 1132 69 = t.1 1132 69
theorem RUNx_glob {e B2 C2 : Nat} (h : RUNx e G F W B C x y s t) (h1 : qC s s2) (h2 : qM t t2) (hD : rD0 G W B2 C2 s2 t2) (hE : rE C2 s2 t2) : RUNx e G F W B2 C2 x y s2 t2 := by
  obtain ⟨⟨r1, r2, ⟨r3, rz⟩, r4, r5, r6, r7⟩, hX, -, -, hT, hU⟩ := h
  refine ⟨⟨r1, r2, ⟨by rw [h1.1]; exact r3, rZ_fr (fun _ _ => by rw [h1.1]) (fun a q1 q2 => h1.2 a (by omega)) (by rw [h1.1]) (by rw [h2.1]) (fun a q1 q2 => h2.2.1 a (by omega) (by omega) (by omega)) r2 rz⟩, by rw [h1.1]; exact r4, by rw [h1.1]; exact r5, by rw [h2.1]; exact r6, by rw [h1.1]; exact r7⟩, TX_fr (fun k => h1.2 _ (by omega)) (fun k => by rw [h1.1]) (fun k hk => h2.2.1 _ (by omega) (by omega) (by omega)) (by rw [h2.1]) hX, hD, hE, fun j hj hji => ?_, fun j k hj hk hji hki => ?_⟩
  · exact rT_fr ⟨h1.2 _ (by omega), h1.2 _ (by omega), h1.2 _ (by omega)⟩ ⟨fun a q1 q2 => by rw [h2.2.1 a (by omega) (by omega) (by omega)], fun a d q1 q2 q3 => by rw [h2.2.1 a (by omega) (by omega) (by omega)], fun k q => by rw [h2.2.1 1239 (by omega) (by omega) (by omega)]⟩ sG1_rf (h1.2 _ (by omega)) (hT j hj hji)
  · have u := hU j k hj hk hji hki
    unfold rU2 at u ⊢
    rw [h1.2 (1036 + 3 * j) (by omega), h1.2 (1036 + 3 * k) (by omega)]
    exact u
theorem aH_glob {B2 C2 : Nat} (h : aH G F W B C x y i D r s t) (h1 : qC s s2) (h2 : qM t t2) (hD : rD0 G W B2 C2 s2 t2) (hE : rE C2 s2 t2) : aH G F W B2 C2 x y i D r s2 t2 := by
  have hi := CL_i h.1
  obtain ⟨⟨hx, ha, hb1, hu, d1, d2, d3, d4, d5, d6, d7, d8, d9, d10, d11⟩, e1, e2, e3, e4⟩ := h
  have hxx := hx.1.1
  have cT := h1.2 (1036 + 3 * i) (by omega)
  have m : ∀ a, 1222 ≤ a → a ≤ 1239 → t2.1 a = t.1 a := fun a q1 q2 => h2.2.1 a (by omega) (by omega) (by omega)
  have k : kT i s s2 t t2 := ⟨fun k _ => by rw [cT], fun a q1 q2 => by rw [m a (by omega) (by omega)]⟩
  refine ⟨⟨RUNx_glob hx h1 h2 hD hE, kT_a k ha, kT_1 k hb1, fun j hj hji => ?_, d1, d2, by rw [cT]; exact d3, by rw [m 1235 (by omega) (by omega)]; exact d4, d5, d6, by rw [cT]; exact d7, by rw [m 1234 (by omega) (by omega)]; exact d8, fun d hd => ?_, fun d hd => ?_, fun d hd => ?_⟩, e1, e2, by rw [m 1237 (by omega) (by omega)]; exact e3, by rw [h1.2 _ (by omega)]; exact e4⟩
  · have u := hu j hj hji
    unfold rU2 at u ⊢
    rw [cT, h1.2 (1036 + 3 * j) (by omega)]
    exact u
  · have q := d9 d hd
    unfold rK at q ⊢
    rw [m 1236 (by omega) (by omega), m 1238 (by omega) (by omega)]
    exact q
  · have q := d10 d hd
    unfold rQ at q ⊢
    rw [m 1237 (by omega) (by omega), h1.2 (1036 + 3 * i + 1) (by omega), h1.2 (x + 22) (by omega)]
    exact q
  · have q := d11 d hd
    unfold rM at q ⊢
    rw [m 1239 (by omega) (by omega), h1.2 (1036 + 3 * i + 2) (by omega)]
    exact q
theorem aH_d (h : aH G F W B C x y i D r s t) : rD0 G W B C s t ∧ rE C s t := ⟨h.1.1.2.2.1, h.1.1.2.2.2.1⟩
/-- the word of the class for a kind: its number -/
theorem zk_lit {k v : Nat} (h : G 10 r = k) (hv : zkd k = v) (w : s.1 (x + 20) r = nI (zkd (G 10 r))) : s.1 (x + 20) r = nI v := by rw [w, h, hv]
/-- a signal of the expressions, with one of them -/
theorem sig_1 {w : Nat} {s2 t2 : zσ} (hb : bR B C n) (h : aH G F W B C x y i D r s t) (o1 : scC s s2) (o2 : scM t t2) (hw : 1 ≤ w ∧ w < 20) (h69 : t2.1 1132 69 = nI w) (hc : f90 n (1036 + 3 * i) (nI r) s = some (nI w, s2)) (hm : f242 n (nI i) (nI r) t = some t2) : pR G B C x y (cP n i r s) (mP n i r t) := by
  have nz : ¬ nI w = 0 := fun q => by have := (neq0 (show w < 2 ^ 31 by omega)).mp q; omega
  obtain ⟨s3, t3, F2, W2, B2, C2, a1, a2, a3⟩ := end_sig hb (aH_sc o1 o2 h) hw h69
  refine ⟨s3, t3, F2, W2, B2, C2, ?_, ?_, a3⟩
  · unfold cP
    rw [hc, gy1, if_neg nz, a1]
  · unfold mP
    rw [hm, gy0, h69, if_neg nz, a2]
/-- a signal of the effect -/
theorem sig_2 {w : Nat} {s1 s2 t2 : zσ} (hb : bR B C n) (h : aH G F W B C x y i D r s2 t2) (hw : 1 ≤ w ∧ w < 20) (h69 : t2.1 1132 69 = nI w) (hc : f90 n (1036 + 3 * i) (nI r) s = some (0, s1)) (hc2 : f97 n (1036 + 3 * i) (nI r) s1 = some (nI w, s2)) (hm : f242 n (nI i) (nI r) t = some t2) : pR G B C x y (cP n i r s) (mP n i r t) := by
  have nz : ¬ nI w = 0 := fun q => by have := (neq0 (show w < 2 ^ 31 by omega)).mp q; omega
  obtain ⟨s3, t3, F2, W2, B2, C2, a1, a2, a3⟩ := end_sig hb h hw h69
  refine ⟨s3, t3, F2, W2, B2, C2, ?_, ?_, a3⟩
  · unfold cP
    rw [hc, gy1, if_pos rfl, hc2, gy1, a1]
  · unfold mP
    rw [hm, gy0, h69, if_neg nz, a2]
/-- both go onward -/
theorem on_2 {s1 s2 t2 : zσ} {B2 : Nat} (hB2 : B2 ≤ B + 1) (hb : bR B C n) (h : aH G F W B2 C x y i D r s2 t2) (h69 : t2.1 1132 69 = 0) (hc : f90 n (1036 + 3 * i) (nI r) s = some (0, s1)) (hc2 : f97 n (1036 + 3 * i) (nI r) s1 = some (0, s2)) (hm : f242 n (nI i) (nI r) t = f237 n (nI i) t2) : pR G B C x y (cP n i r s) (mP n i r t) := by
  obtain ⟨s3, t3, F2, W2, C2, a1, a2, a3, a4, a5⟩ := end_on (n := n) (B := B2) hb.1 hb.2.1 h h69
  refine ⟨s3, t3, F2, W2, B2, C2, ?_, ?_, a4, hB2, by omega⟩
  · unfold cP
    rw [hc, gy1, if_pos rfl, hc2, gy1, a1]
  · unfold mP
    rw [hm, a2, gy0, if_pos a3]
end ZAC
