/-! the schedules that are due act -/
section ZCN
variable {G W W2 : Nat → Nat → Nat} {F F2 : Nat → Nat → Nat → Nat} {B C C2 x y n i j o k v p D r : Nat} {s t s2 t2 : zσ}
theorem nle_N {a b : Nat} (ha : a < 2 ^ 31) (hb : b < 2 ^ 31) : (nI a ≤ nI b) ↔ a ≤ b := by
  rw [← Int32.not_lt, nltN hb ha]
  omega
theorem RUNx_glob2 {e B2 C2 : Nat} (h : RUNx e G F W B C x y s t) (c1 : s2.2 = s.2) (c2 : ∀ a, (a ≠ 1007 ∧ a < 1009) ∨ 1031 < a → s2.1 a = s.1 a) (h2 : qM t t2) (hD : rD0 G W B2 C2 s2 t2) (hE : rE C2 s2 t2) : RUNx e G F W B2 C2 x y s2 t2 := by
  obtain ⟨⟨r1, r2, ⟨r3, rz⟩, r4, r5, r6, r7⟩, hX, -, -, hT, hU⟩ := h
  refine ⟨⟨r1, r2, ⟨by rw [c1]; exact r3, rZ_fr (fun _ _ => by rw [c1]) (fun a q1 q2 => c2 a (by omega)) (by rw [c1]) (by rw [h2.1]) (fun a q1 q2 => h2.2.1 a (by omega) (by omega) (by omega)) r2 rz⟩, by rw [c1]; exact r4, by rw [c1]; exact r5, by rw [h2.1]; exact r6, by rw [c1]; exact r7⟩, TX_fr (fun k => c2 _ (by omega)) (fun k => by rw [c1]) (fun k hk => h2.2.1 _ (by omega) (by omega) (by omega)) (by rw [h2.1]) hX, hD, hE, fun j hj hji => ?_, fun j k hj hk hji hki => ?_⟩
  · exact rT_fr ⟨c2 _ (by omega), c2 _ (by omega), c2 _ (by omega)⟩ ⟨fun a q1 q2 => by rw [h2.2.1 a (by omega) (by omega) (by omega)], fun a d q1 q2 q3 => by rw [h2.2.1 a (by omega) (by omega) (by omega)], fun k q => by rw [h2.2.1 1239 (by omega) (by omega) (by omega)]⟩ sG1_rf (c2 _ (by omega)) (hT j hj hji)
  · have u := hU j k hj hk hji hki
    unfold rU2 at u ⊢
    rw [c2 (1036 + 3 * j) (by omega), c2 (1036 + 3 * k) (by omega)]
    exact u
/-- a change of schedules alone -/
theorem sch_ok (h : RUN G F W B C x y s t) (c1 : s2.2 = s.2) (c2 : ∀ a, a ≠ 1023 → s2.1 a = s.1 a) (m1 : t2.2 = t.2) (m2 : ∀ a, ¬ (1240 ≤ a ∧ a ≤ 1244) → t2.1 a = t.1 a) (hH : rH G s2 t2) : RUN G F W B C x y s2 t2 := by
  have hxx := h.1.1
  have hyy := h.1.2.1
  obtain ⟨d1, d2, d3, d4, d5, d6, d7, d8, d9, d10, d11⟩ := id h.2.2.1
  have dE := h.2.2.2.1
  refine RUNx_glob (s := s) (t := t) h ⟨c1, fun a ha => c2 a (by omega)⟩ ⟨m1, fun a q1 q2 q3 => m2 a (by omega), by rw [m2 1132 (by decide)]⟩ ⟨?_, ?_, ?_, ?_, ?_, ?_, ?_, ?_, ?_, hH, ?_⟩ ?_
  · unfold rA at d1 ⊢; simp (disch := omega) only [c2, m2]; exact d1
  · unfold rB at d2 ⊢; simp (disch := omega) only [c2, m2]; exact d2
  · unfold rV at d3 ⊢; simp (disch := omega) only [c2, m2]; exact d3
  · unfold rW at d4 ⊢; simp (disch := omega) only [c2, m2]; exact d4
  · unfold rS at d5 ⊢; simp (disch := omega) only [c2, m2]; exact d5
  · unfold rL at d6 ⊢; simp (disch := omega) only [c2, m2]; exact d6
  · unfold rI at d7 ⊢; simp (disch := omega) only [c2, m2]; exact d7
  · unfold rO at d8 ⊢; simp (disch := omega) only [c2, m2]; exact d8
  · unfold rP at d9 ⊢; simp (disch := omega) only [c2, m2]; exact d9
  · unfold rC at d11 ⊢; simp (disch := omega) only [c2, m2]; exact d11
  · unfold rE at dE ⊢; simp (disch := omega) only [c2, m2]; exact dE
/-- a schedule that acts goes on, or is gone -/
theorem advS_ok (hB : B < 900000000) (h : RUN G F W B C x y s t) (hk : k < 16) (w : tmS k s) (due : ¬ s.1 1007 14 < s.1 1023 k) : ∃ nv t1, f86 n (nI k) s = some (sI s 1023 k nv) ∧ (∀ r5 : Int32 → zσ → Option zσ, ∀ fu, f222_5 n (fu + 1) (nI k) t = f222_86 n (f222_5 n fu) (nI k) t1) ∧ RUN G F W B C x y (sI s 1023 k nv) t1 ∧ (nv = -1 ∨ s.1 1007 14 < nv) := by
  obtain ⟨d, e, a1, a2, a3, a4, a5, a6, a7, a8, a9, a10, a11, a12⟩ := (tmS_m h hk).1 w
  have z16 : zin? (nI k) 16 = true := (zinN (by omega)).mpr hk
  have nk := nxN (show k < 2 ^ 31 by omega)
  have nk1 : ¬ nI k = -1 := fun e => (neqM (show k < 2 ^ 31 by omega)).mp e
  have eT : s.1 1007 14 = t.1 1132 20 := h.2.2.1.1.1
  obtain ⟨m, hm, em⟩ := h.2.2.1.2.1.2.2
  have hH := h.2.2.1.2.2.2.2.2.2.2.2.2.1
  have sum := i64_sum (m := d) (p := e) (by omega) (by omega)
  have eC : f86 n (nI k) s = (if nI e = 0 then some (sI s 1023 k (-1)) else if (s.1 1025 k).toInt64 < (nI d).toInt64 + (nI e).toInt64 then some (sI s 1023 k (-1)) else if (1000000000 : Int64) < (nI d).toInt64 + (nI e).toInt64 then some (sI s 1023 k (-1)) else some (sI s 1023 k ((nI d).toInt64 + (nI e).toInt64).toInt32)) := by
    unfold f86 f86_45 f86_50 f86_68
    simp only [if_pos z16, nk, a3, a4, zlet, if_true, if_false, show ¬ (1 : Int32) = 0 by decide]
  have eM : ∀ fu, f222_5 n (fu + 1) (nI k) t = (if nI e = 0 then f222_86 n (f222_5 n fu) (nI k) (sI t 1240 k 0) else if (s.1 1025 k).toInt64 < (nI d).toInt64 + (nI e).toInt64 then f222_86 n (f222_5 n fu) (nI k) (sI t 1240 k 0) else if (1000000000 : Int64) < (nI d).toInt64 + (nI e).toInt64 then f222_86 n (f222_5 n fu) (nI k) (sI t 1240 k 0) else f222_86 n (f222_5 n fu) (nI k) (sI t 1241 k ((nI d).toInt64 + (nI e).toInt64).toInt32)) := by
    intro fu
    rw [f222_5, if_neg nk1]
    unfold f222_79
    simp only [if_pos z16, nk, a6, a7, a8, zlet, gnar0]
    rw [← eT, ← a3, if_neg due]
    by_cases e0 : e = 0
    · have q1 : nI e = 0 := by rw [e0]; rfl
      rw [if_neg (show ¬ (0 : Int32) < nI e by rw [q1]; decide), if_pos q1]
    · have q1 : ¬ nI e = 0 := fun q => e0 ((neq0 (by omega)).mp q)
      have l0 : (0 : Int32) < nI e := (nltN (a := 0) (by decide) (by omega)).mpr (by omega)
      rw [if_pos l0, if_neg q1]
  have gone : RUN G F W B C x y (sI s 1023 k (-1)) (sI t 1240 k 0) := by
    refine sch_ok h rfl (fun a ha => hIo ha) rfl (fun a ha => hIo (by omega)) ⟨fun q hq => ?_, ?_, hH.2.2⟩
    · by_cases e : q = k
      · subst e
        exact Or.inl ⟨hIe, hIe⟩
      · simp (disch := omega) only [hIk, hIo]
        exact hH.1 q hq
    · refine Nat.le_trans (zNH_le (fun q hq e => ?_)) hH.2.1
      by_cases e2 : q = k
      · subst e2; exact hIe
      · rw [hIk e2]; exact e
  by_cases e0 : nI e = 0
  · exact ⟨-1, _, by rw [eC, if_pos e0], fun _ fu => by rw [eM, if_pos e0], gone, Or.inl rfl⟩
  · by_cases q1 : (s.1 1025 k).toInt64 < (nI d).toInt64 + (nI e).toInt64
    · exact ⟨-1, _, by rw [eC, if_neg e0, if_pos q1], fun _ fu => by rw [eM, if_neg e0, if_pos q1], gone, Or.inl rfl⟩
    · by_cases q2 : (1000000000 : Int64) < (nI d).toInt64 + (nI e).toInt64
      · exact ⟨-1, _, by rw [eC, if_neg e0, if_neg q1, if_pos q2], fun _ fu => by rw [eM, if_neg e0, if_neg q1, if_pos q2], gone, Or.inl rfl⟩
      · obtain ⟨s1, s2⟩ := i64_sum2 (m := d) (p := e) (by omega) (by omega) q2
        have e0' : e ≠ 0 := fun q => e0 (by rw [q]; rfl)
        have hg := hH.2.2
        have le : m + G 22 0 ≤ d := by
          rcases a12 with q | q
          · exact absurd q e0'
          · rw [em, naddN] at q
            exact (nle_N (by omega) (by omega)).mp q
        refine ⟨nI (d + e), sI t 1241 k (nI (d + e)), by rw [eC, if_neg e0, if_neg q1, if_neg q2, s2], fun _ fu => by rw [eM, if_neg e0, if_neg q1, if_neg q2, s2], ?_, Or.inr (by rw [em]; exact (nltN (by omega) (by omega)).mpr (by omega))⟩
        refine sch_ok h rfl (fun a ha => hIo ha) rfl (fun a ha => hIo (by omega)) ⟨fun q hq => ?_, ?_, hH.2.2⟩
        · by_cases e3 : q = k
          · subst e3
            refine Or.inr ⟨by rw [hIo (by decide)]; exact a5, a11, by rw [hIe, hIe], by rw [hIo (by decide), hIo (by decide), a4, a7], by rw [hIo (by decide), hIo (by decide), a8], by rw [hIo (by decide), hIo (by decide), a10, a9], Or.inl ⟨by rw [hIo (by decide)]; exact a10, d + e, e, s1, a2, hIe, by rw [hIo (by decide)]; exact a4, Or.inr ?_⟩⟩
            rw [hIo (by decide), em, naddN]
            exact (nle_N (by omega) (by omega)).mpr (by omega)
          · simp (disch := omega) only [hIk, hIo]
            exact hH.1 q hq
        · refine Nat.le_trans (zNH_le (fun q hq e4 => ?_)) hH.2.1
          by_cases e3 : q = k
          · subst e3
            rw [a3] at e4
            exact absurd e4 (fun e => (neqM (show d < 2 ^ 31 by omega)).mp e)
          · rw [hIk e3]; exact e4
/-- how many are due -/
def dcn (s : zσ) : Nat := zct (fun q => decide (¬ s.1 1023 q < 0 ∧ ¬ s.1 1007 14 < s.1 1023 q)) 16 0
theorem dcn_le (e14 : s2.1 1007 14 = s.1 1007 14) (h : ∀ k, s2.1 1023 k = s.1 1023 k ∨ s2.1 1023 k = -1) : dcn s2 ≤ dcn s := by
  refine zct_le 16 0 (fun q _ _ w => ?_)
  have w1 := of_decide_eq_true w
  rw [e14] at w1
  rcases h q with e | e
  · rw [e] at w1
    exact decide_eq_true w1
  · rw [e] at w1
    exact absurd (show (-1 : Int32) < 0 by decide) w1.1
theorem dcn_lt {nv : Int32} (hk : k < 16) (w : tmS k s) (due : ¬ s.1 1007 14 < s.1 1023 k) (hv : nv = -1 ∨ s.1 1007 14 < nv) : dcn (sI s 1023 k nv) < dcn s := by
  refine zct_lt (e := k) 16 0 (fun q _ _ u => ?_) (Nat.zero_le _) (by omega) (fun u => ?_) (decide_eq_true ⟨w, due⟩)
  · have w1 := of_decide_eq_true u
    by_cases e : q = k
    · subst e
      exact decide_eq_true ⟨w, due⟩
    · rw [hIk e, hIo (by decide)] at w1
      exact decide_eq_true w1
  · have w1 := of_decide_eq_true u
    rw [hIe, hIo (by decide)] at w1
    rcases hv with e | e
    · rw [e] at w1
      exact absurd (show (-1 : Int32) < 0 by decide) w1.1
    · exact w1.2 e
theorem due_L (hn : 1000 ≤ n) (hB : B < 900000000) : ∀ m c fu fu2 C (F : Nat → Nat → Nat → Nat) (W : Nat → Nat → Nat) (s t : zσ), RUN G F W B C x y s t → Nob n x s → dcn s ≤ m → c + m < 1000 → C + m < 899999900 → m < fu → m < fu2 → ∃ s2 t2 F2 W2 C2, f84_2 n fu (nI c) s = some s2 ∧ (yb1 (f223 n t) fun v2 u1 => f222_5 n fu2 v2 u1) = some t2 ∧ RUN G F2 W2 B C2 x y s2 t2 ∧ C2 ≤ C + m ∧ Nob n x s2 ∧ (∀ k, k < 16 → tmS k s2 → s2.1 1007 14 < s2.1 1023 k) ∧ s2.1 1007 14 = s.1 1007 14 := by
  intro m
  induction m with
  | zero =>
    intro c fu fu2 C F W s t h hN hd hc hC hf hf2
    obtain ⟨fu, rfl⟩ : ∃ f0, fu = f0 + 1 := ⟨fu - 1, by omega⟩
    obtain ⟨fu2, rfl⟩ : ∃ f0, fu2 = f0 + 1 := ⟨fu2 - 1, by omega⟩
    obtain ⟨b, b1, b2, b3⟩ := early_ok hn h
    have lc : nI c < 1000 := (nltN (b := 1000) (by omega) (by decide)).mpr (by omega)
    rw [f84_2, if_pos lc, b2, b3, gy1, gy1]
    cases b with
    | none => exact ⟨s, t, F, W, C, by rw [enc_n, if_pos rfl], by rw [enc_n, f222_5, if_pos rfl], h, by omega, hN, fun k hk w => absurd w (b1 k hk), rfl⟩
    | some b =>
      obtain ⟨c1, c2, c3⟩ := b1
      have nb : ¬ nI b = -1 := fun e => (neqM (show b < 2 ^ 31 by omega)).mp e
      have zb : zin? (nI b) 16 = true := (zinN (by omega)).mpr c1
      have nb2 := nxN (show b < 2 ^ 31 by omega)
      obtain ⟨d, e, a1, a2, a3, a4, a5, a6, -⟩ := (tmS_m h c1).1 c2
      have eT : s.1 1007 14 = t.1 1132 20 := h.2.2.1.1.1
      by_cases q : s.1 1007 14 < s.1 1023 b
      · refine ⟨s, t, F, W, C, by rw [enc_s, if_neg nb, if_pos zb, nb2, if_pos q], ?_, h, by omega, hN, fun k hk w => ?_, rfl⟩
        · rw [enc_s, f222_5, if_neg nb, if_pos zb, nb2, if_pos (by rw [a6, ← a3, ← eT]; exact q)]
        · exact Int32.lt_of_lt_of_le q (Int32.not_lt.mp (c3 k hk w))
      · have := dcn_lt (nv := -1) c1 c2 q (Or.inl rfl)
        omega
  | succ m ih =>
    intro c fu fu2 C F W s t h hN hd hc hC hf hf2
    obtain ⟨fu, rfl⟩ : ∃ f0, fu = f0 + 1 := ⟨fu - 1, by omega⟩
    obtain ⟨fu2, rfl⟩ : ∃ f0, fu2 = f0 + 1 := ⟨fu2 - 1, by omega⟩
    have hxx := h.1.1
    obtain ⟨b, b1, b2, b3⟩ := early_ok hn h
    have lc : nI c < 1000 := (nltN (b := 1000) (by omega) (by decide)).mpr (by omega)
    rw [f84_2, if_pos lc, b2, b3, gy1, gy1]
    cases b with
    | none => exact ⟨s, t, F, W, C, by rw [enc_n, if_pos rfl], by rw [enc_n, f222_5, if_pos rfl], h, by omega, hN, fun k hk w => absurd w (b1 k hk), rfl⟩
    | some b =>
      obtain ⟨c1, c2, c3⟩ := b1
      have nb : ¬ nI b = -1 := fun e => (neqM (show b < 2 ^ 31 by omega)).mp e
      have zb : zin? (nI b) 16 = true := (zinN (by omega)).mpr c1
      have nb2 := nxN (show b < 2 ^ 31 by omega)
      obtain ⟨d, e, a1, a2, a3, a4, a5, a6, -, -, -, -, a11, -⟩ := (tmS_m h c1).1 c2
      have eT : s.1 1007 14 = t.1 1132 20 := h.2.2.1.1.1
      by_cases q : s.1 1007 14 < s.1 1023 b
      · refine ⟨s, t, F, W, C, by rw [enc_s, if_neg nb, if_pos zb, nb2, if_pos q], ?_, h, by omega, hN, fun k hk w => ?_, rfl⟩
        · rw [enc_s, f222_5, if_neg nb, if_pos zb, nb2, if_pos (by rw [a6, ← a3, ← eT]; exact q)]
        · exact Int32.lt_of_lt_of_le q (Int32.not_lt.mp (c3 k hk w))
      · obtain ⟨nv, t1, v1, v2, v3, v4⟩ := advS_ok (n := n) hB h c1 c2 q
        have hN1 : Nob n x (sI s 1023 b nv) := Nob_ag hxx hN (fun a ha => hIo (by omega))
        obtain ⟨cc, s2, t2, F2, W2, C2, g1, g2, g3, g4, g5, g6⟩ := slot_ok hn (by omega) v3 hN1 a11
        have l1 := dcn_lt c1 c2 q v4
        have l2 := dcn_le g6.2.2.2.2.1.2 g6.2.1
        obtain ⟨s3, t3, F3, W3, C3, i1, i2, i3, i4, i5, i6, i7⟩ := ih (c + 1) fu fu2 C2 F2 W2 s2 t2 g3 g5 (by omega) (by omega) (by omega) (by omega) (by omega)
        refine ⟨s3, t3, F3, W3, C3, ?_, ?_, i3, by omega, i5, i6, by rw [i7, g6.2.2.2.2.1.2, hIo (by decide)]⟩
        · rw [enc_s, if_neg nb, if_pos zb, nb2, if_neg q, v1, gy0, g1, gy1, naddL, i1]
        · rw [enc_s, v2 (f222_5 n fu2)]
          unfold f222_86
          rw [g2, gy0, i2]
theorem due_ok (hn : 1000 ≤ n) (hB : B < 900000000) (hC : C < 899999000) (h : RUN G F W B C x y s t) (hN : Nob n x s) : ∃ s2 t2 F2 W2 C2, f84 n s = some s2 ∧ f222 n t = some t2 ∧ RUN G F2 W2 B C2 x y s2 t2 ∧ C2 ≤ C + 16 ∧ Nob n x s2 ∧ (∀ k, k < 16 → tmS k s2 → s2.1 1007 14 < s2.1 1023 k) ∧ s2.1 1007 14 = s.1 1007 14 := by
  have l : dcn s ≤ 16 := zct_m 16 0
  exact due_L hn hB 16 0 n n C F W s t h hN l (by omega) (by omega) (by omega) (by omega)
end ZCN
