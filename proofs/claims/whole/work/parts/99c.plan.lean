/-! schedules are laid -/
section ZAV
variable {G W W2 : Nat → Nat → Nat} {F F2 : Nat → Nat → Nat → Nat} {B C B2 C2 x y n i D r o v u kk : Nat} {s t s2 t2 : zσ}
theorem zct_up {P Q : Nat → Bool} {kk : Nat} (h : ∀ i, i ≠ kk → Q i = P i) : ∀ m k, zct Q m k ≤ zct P m k + 1
  | 0, _ => by unfold zct; omega
  | m + 1, k => by
    unfold zct
    by_cases q : k = kk
    · rw [zct_eq (P := Q) (Q := P) m (k + 1) (fun i a b => h i (by omega))]
      split <;> split <;> omega
    · rw [h k q]
      have := zct_up h m (k + 1)
      omega
theorem zNH_up {f g : Nat → Int32} (h : ∀ k, k ≠ kk → g k = f k) : zNH g ≤ zNH f + 1 := zct_up (kk := kk) (fun i hi => by rw [h i hi]) 16 0
theorem tNat {m : Nat} (hm : m < 2 ^ 31) : (nI m).toInt = (m : Int) := Int32.toInt_ofNat_of_lt hm
theorem i64_sum {m p : Nat} (hm : m < 2 ^ 31) (hp : p < 2 ^ 31) : ((nI m).toInt64 + (nI p).toInt64).toInt = (m : Int) + p := by
  rw [Int64.toInt_add, Int32.toInt_toInt64, Int32.toInt_toInt64, tNat hm, tNat hp]
  exact bm64 (by omega) (by omega)
theorem i64_sum2 {m p : Nat} (hm : m < 2 ^ 31) (hp : p < 2 ^ 31) (h : ¬ (1000000000 : Int64) < (nI m).toInt64 + (nI p).toInt64) : m + p ≤ 1000000000 ∧ ((nI m).toInt64 + (nI p).toInt64).toInt32 = nI (m + p) := by
  have e := i64_sum hm hp
  have l : m + p ≤ 1000000000 := by
    rcases Nat.lt_or_ge 1000000000 (m + p) with q | q
    · exact absurd (Int64.lt_iff_toInt_lt.mpr (by rw [e, show (1000000000 : Int64).toInt = 1000000000 from rfl]; omega)) h
    · exact q
  refine ⟨l, ?_⟩
  have e2 : (nI m).toInt64 + (nI p).toInt64 = (nI (m + p)).toInt64 := by
    apply Int64.toInt_inj.mp
    rw [e, Int32.toInt_toInt64, tNat (by omega)]
    omega
  rw [e2, Int32.toInt32_toInt64]
/-- both lay it -/
theorem aH_plan {d e un iv : Int32} (h2 : aH G F W B C x y i D r s t) (hk : kk < 2 * G 6 8) (hv : (iv = -1 ∧ ∃ a b, a ≤ 1000000000 ∧ b ≤ 1000000000 ∧ d = nI a ∧ e = nI b ∧ (b = 0 ∨ s.1 1007 14 + nI (G 22 0) ≤ nI a)) ∨ (∃ i, i < 4 ∧ iv = nI i ∧ d = -2000000000)) (hc : ¬ s.1 1023 kk = -1 ∨ zNH (s.1 1023) < 12) : aH G F W B C x y i D r (sI (sI (sI (sI s 1023 kk d) 1024 kk e) 1025 kk un) 1026 kk iv) (sI (sI (sI (sI (sI t 1240 kk 1) 1241 kk d) 1242 kk e) 1243 kk un) 1244 kk iv) := by
  obtain ⟨⟨d1, d2, d3, d4, d5, d6, d7, d8, d9, d10, d11⟩, dE⟩ := aH_d h2
  refine aH_glob h2 ⟨rfl, fun a ha => by simp (disch := omega) only [hIo]⟩ ⟨rfl, fun a q1 q2 q3 => by simp (disch := omega) only [hIo], by simp (disch := omega) only [hIo, hIk]⟩ ⟨?_, ?_, ?_, ?_, ?_, ?_, ?_, ?_, ?_, ?_, ?_⟩ ?_
  · unfold rA at d1 ⊢; simp (disch := omega) only [hIo, hIk]; exact d1
  · unfold rB at d2 ⊢; simp (disch := omega) only [hIo, hIk]; exact d2
  · unfold rV at d3 ⊢; simp (disch := omega) only [hIo, hIk]; exact d3
  · unfold rW at d4 ⊢; simp (disch := omega) only [hIo, hIk]; exact d4
  · unfold rS at d5 ⊢; simp (disch := omega) only [hIo, hIk]; exact d5
  · unfold rL at d6 ⊢; simp (disch := omega) only [hIo, hIk]; exact d6
  · unfold rI at d7 ⊢; simp (disch := omega) only [hIo, hIk]; exact d7
  · unfold rO at d8 ⊢; simp (disch := omega) only [hIo, hIk]; exact d8
  · unfold rP at d9 ⊢; simp (disch := omega) only [hIo, hIk]; exact d9
  · refine ⟨fun q hq => ?_, ?_, d10.2.2⟩
    · by_cases e : q = kk
      · subst e
        simp (disch := omega) only [hIo, hIe]
        exact Or.inr ⟨trivial, hk, trivial, trivial, trivial, trivial, hv⟩
      · have := d10.1 q hq
        simp (disch := omega) only [hIo, hIk e]
        exact this
    · simp (disch := omega) only [hIo]
      rcases hc with hc | hc
      · refine Nat.le_trans (zNH_le (fun q _ e => ?_)) d10.2.1
        by_cases w : q = kk
        · subst w
          exact absurd e hc
        · rw [hIk w]
          exact e
      · have := zNH_up (kk := kk) (f := s.1 1023) (g := (sI s 1023 kk d).1 1023) (fun q w => hIk w)
        omega
  · unfold rC at d11 ⊢; simp (disch := omega) only [hIo, hIk]; exact d11
  · unfold rE at dE ⊢; simp (disch := omega) only [hIo, hIk]; exact dE
/-- it is laid, or there are too many -/
theorem plan_fin {x2 x3 x4 x5 x7 x8 k4 d iv : Int32} {x6 X5 : Int64} (hb : bR B C n) (h : aH G F W B C x y i D r s2 t2) (h69 : t2.1 1132 69 = 0) (c1 : f90 n (1036 + 3 * i) (nI r) s = some (0, s2)) (hk : kk < 2 * G 6 8) (hC : f97 n (1036 + 3 * i) (nI r) s2 = f124_154 n (nI kk) x2 x3 x4 x5 x6 x8 s2) (hM : f242 n (nI i) (nI r) t = f264_264 n (nI i) (nI r) (nI kk) k4 X5 x7 x8 t2) (hd : (x3 = 0 ∧ d = -2000000000 ∧ iv = x2) ∨ (¬ x3 = 0 ∧ d = x6.toInt32 ∧ iv = -1)) (he : (x4 = 0 ∧ x7 = 0) ∨ (¬ x4 = 0 ∧ x7 = x5)) (hd2 : X5.toInt32 = d) (hiv : (k4 = 4 ∧ ∃ u, u < 1400 ∧ t2.1 (y + 18) r = nI u ∧ t2.1 (y + 33) u = iv) ∨ (¬ k4 = 4 ∧ iv = -1)) (hv : (iv = -1 ∧ ∃ a b, a ≤ 1000000000 ∧ b ≤ 1000000000 ∧ d = nI a ∧ x7 = nI b ∧ (b = 0 ∨ s2.1 1007 14 + nI (G 22 0) ≤ nI a)) ∨ (∃ i, i < 4 ∧ iv = nI i ∧ d = -2000000000)) : pR G B C x y (cP n i r s) (mP n i r t) := by
  have hr := aH_r h
  obtain ⟨hxx, hyy, r9, r11, w3, w4, w6, zr, z8, hi⟩ := aH_k h
  have k12 := gck12 hyy
  have nr := nxN (show r < 2 ^ 31 by omega)
  have h88 := (h.1.1.2.1.1.1 8 (by decide)).2.2
  have zk : zin? (nI kk) 16 = true := (zinN (by omega)).mpr (by omega)
  have nk := nxN (show kk < 2 ^ 31 by omega)
  obtain ⟨⟨d1, d2, d3, d4, d5, d6, d7, d8, d9, d10, d11⟩, dE⟩ := aH_d h
  have S : f124_182 n (nI kk) x2 x3 x4 x5 x6 x8 s2 = some (0, sI (sI (sI (sI s2 1023 kk d) 1024 kk x7) 1025 kk x8) 1026 kk iv) := by
    unfold f124_182 f124_203 f124_223 f124_252
    rcases hd with ⟨a, b, c⟩ | ⟨a, b, c⟩ <;> rcases he with ⟨a', b'⟩ | ⟨a', b'⟩
    · simp only [if_pos zk, nk, zlet, if_pos a, if_pos a', b, c, b']
    · simp only [if_pos zk, nk, zlet, if_pos a, if_neg a', b, c, b']
    · simp only [if_pos zk, nk, zlet, if_neg a, if_pos a', b, c, b']
    · simp only [if_pos zk, nk, zlet, if_neg a, if_neg a', b, c, b']
  have M : f264_289 n (nI i) (nI r) (nI kk) k4 X5 x7 x8 t2 = f237 n (nI i) (sI (sI (sI (sI (sI t2 1240 kk 1) 1241 kk d) 1242 kk x7) 1243 kk x8) 1244 kk iv) := by
    unfold f264_289 f264_353
    rcases hiv with ⟨a, u, b1, b2, b3⟩ | ⟨a, b⟩
    · have zu : zin? (nI u) 1400 = true := (zinN (by omega)).mpr b1
      simp (disch := omega) only [if_pos zk, nk, zlet, if_pos a, gI2, r11, grd k12, if_pos zr, nr, hIo, b2, if_pos zu, nxN, b3, hd2, show vp_nar .boolean (1 : Int32) = 1 from rfl, gyS]
    · simp only [if_pos zk, nk, zlet, if_neg a, b, hd2, show vp_nar .boolean (1 : Int32) = 1 from rfl, gyS]
  have fin : (¬ s2.1 1023 kk = -1 ∨ zNH (s2.1 1023) < 12) → f97 n (1036 + 3 * i) (nI r) s2 = f124_182 n (nI kk) x2 x3 x4 x5 x6 x8 s2 → f242 n (nI i) (nI r) t = f264_289 n (nI i) (nI r) (nI kk) k4 X5 x7 x8 t2 → pR G B C x y (cP n i r s) (mP n i r t) := by
    intro hc q1 q2
    exact on_2 (Nat.le_succ _) hb (aH_plan h hk hv hc) (by simp (disch := omega) only [hIo]; exact h69) c1 (by rw [q1, S]) (by rw [q2, M])
  have n20 : 20 ≤ n := by have := hb.1; omega
  have hz := size_ok (s := s2) n20
  have hz2 := scheds_ok (t := t2) n20
  rw [sch_eq d10] at hz2
  have l12 := d10.2.1
  unfold zNH at l12 fin
  generalize zct (fun i => decide (s2.1 1023 i ≠ -1)) 16 0 = m at l12 fin hz hz2
  unfold f124_154 at hC
  unfold f264_264 at hM
  rw [if_pos zk, nk] at hC hM
  rcases d10.1 kk (by omega) with ⟨a1, a2⟩ | ⟨a1, -, -, -, -, -, a3⟩
  · rw [if_pos a1, hz, gy1] at hC
    rw [if_pos a2, hz2, gy1] at hM
    by_cases q : m < 12
    · rw [if_pos (show nI m < 12 from (nltN (b := 12) (by omega) (by decide)).mpr q)] at hC
      rw [if_neg (show ¬ nI m = 12 from fun e => by have := (neqN (b := 12) (show m < 2 ^ 31 by omega) (by decide)).mp e; omega)] at hM
      exact fin (Or.inr q) hC hM
    · rw [if_neg (show ¬ nI m < 12 from fun e => q ((nltN (b := 12) (by omega) (by decide)).mp e))] at hC
      rw [if_pos (show nI m = 12 by rw [show m = 12 by omega]; rfl), show (7 : Int32) = nI 7 from rfl, m_sig h69] at hM
      have h3 : aH G F W B C x y i D r s2 (sI t2 1132 69 (nI 7)) := aH_sc scC_rf scM_69 h
      exact sig_2 hb h3 (by decide) hIe c1 hC hM
  · have b1 : ¬ s2.1 1023 kk = -1 := by
      rcases a3 with ⟨-, d, e, hd, -, h1, -⟩ | ⟨-, -, -, h1⟩
      · rw [h1]; exact fun q => (neqM (show d < 2 ^ 31 by omega)).mp q
      · rw [h1]; decide
    rw [if_neg b1] at hC
    rw [if_neg (by rw [a1]; decide)] at hM
    exact fin (Or.inl b1) hC hM
end ZAV
