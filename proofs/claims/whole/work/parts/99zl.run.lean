/-! a grain, a run -/
section ZCS
variable {G W W2 : Nat → Nat → Nat} {F F2 : Nat → Nat → Nat → Nat} {B C B2 C2 x y n i j o k v p D r N P g : Nat} {s t s2 t2 s' t' : zσ} {a b : Nat → Nat}
theorem dorm_0 (h : RUN G F W B C x y s t) : ∀ m j fu, j + m = G 6 8 → m < fu → f240_4 n fu 0 (nI j) t = some (0, t) := by
  have h88 := (h.2.1.1.1 8 (by decide)).2.2
  intro m
  induction m with
  | zero =>
    intro j fu hj hf
    obtain ⟨fu, rfl⟩ : ∃ f0, fu = f0 + 1 := ⟨fu - 1, by omega⟩
    rw [f240_4, m_209 h, gy1, show j = G 6 8 by omega, if_neg Int32.lt_irrefl, if_pos (Or.inl rfl)]
  | succ m ih =>
    intro j fu hj hf
    obtain ⟨fu, rfl⟩ : ∃ f0, fu = f0 + 1 := ⟨fu - 1, by omega⟩
    rw [f240_4, m_209 h, gy1, if_pos ((nltN (by omega) (by omega)).mpr (by omega)), if_pos rfl]
    unfold f240_29 f240_30
    rw [naddL]
    exact ih (j + 1) fu (by omega) (by omega)
theorem dorm_L (h : RUN G F W B C x y s t) : ∀ m j fu, j + m = G 6 8 → m < fu → ((∀ k, j ≤ k → k < G 6 8 → s.1 (1036 + 3 * k) 3 = 0) ∧ f240_4 n fu 1 (nI j) t = some (1, t)) ∨ ((∃ k, j ≤ k ∧ k < G 6 8 ∧ ¬ s.1 (1036 + 3 * k) 3 = 0) ∧ f240_4 n fu 1 (nI j) t = some (0, t)) := by
  have h88 := (h.2.1.1.1 8 (by decide)).2.2
  intro m
  induction m with
  | zero =>
    intro j fu hj hf
    obtain ⟨fu, rfl⟩ : ∃ f0, fu = f0 + 1 := ⟨fu - 1, by omega⟩
    refine Or.inl ⟨fun k k1 k2 => by omega, ?_⟩
    rw [f240_4, m_209 h, gy1, show j = G 6 8 by omega, if_neg Int32.lt_irrefl, if_pos (Or.inr rfl)]
  | succ m ih =>
    intro j fu hj hf
    obtain ⟨fu, rfl⟩ : ∃ f0, fu = f0 + 1 := ⟨fu - 1, by omega⟩
    have hj8 : j < 8 := by omega
    have z8 : zin? (nI j) 8 = true := (zinN (by omega)).mpr hj8
    have est : t.1 1225 j = s.1 (1036 + 3 * j) 3 := by
      obtain ⟨-, ⟨a, k, -, b2, b3, -⟩, -⟩ := h.2.2.2.2.1 j hj8 (by omega)
      rw [b2, b3]
    rw [f240_4, m_209 h, gy1, if_pos ((nltN (by omega) (by omega)).mpr (by omega)), if_neg (by decide), if_pos z8, nxN (show j < 2 ^ 31 by omega), est]
    unfold f240_29 f240_30
    rw [naddL]
    by_cases w : s.1 (1036 + 3 * j) 3 = 0
    · rw [if_pos w]
      rcases ih (j + 1) fu (by omega) (by omega) with ⟨a1, a2⟩ | ⟨⟨k, k1, k2, k3⟩, a2⟩
      · refine Or.inl ⟨fun k k1 k2 => ?_, a2⟩
        by_cases e : k = j
        · rw [e]; exact w
        · exact a1 k (by omega) k2
      · exact Or.inr ⟨⟨k, by omega, k2, k3⟩, a2⟩
    · rw [if_neg w]
      exact Or.inr ⟨⟨j, Nat.le_refl _, by omega, w⟩, dorm_0 h m (j + 1) fu (by omega) (by omega)⟩
theorem zct_tr : ∀ m k, zct (fun _ => true) m k = m
  | 0, _ => rfl
  | m + 1, k => by
    unfold zct
    rw [zct_tr m (k + 1), if_pos rfl]
    omega
/-- what a run tells at its end -/
theorem still_ok (hn : 1000 ≤ n) (h : RUN G F W B C x y s t) : ∃ v : Int32, ¬ v = 1 ∧ (yb1 (f81 n (0 : Int32) s) fun v8 u7 => if v8 = (u7.1 1007 12) then some ((2 : Int32), u7) else some ((0 : Int32), u7)) = some (v, s) ∧ (yb1 (f240 n t) fun v8 u7 => if v8 = (0 : Int32) then some ((0 : Int32), u7) else some ((2 : Int32), u7)) = some (v, t) := by
  have h88 := (h.2.1.1.1 8 (by decide)).2.2
  have a12 : s.1 1007 12 = nI (G 6 8) := h.2.2.1.1.2.2.2.2.2.2.2.1
  have e1 := inst_ok (n := n) (a := 0) (by omega) h.1 h.2.2.1.1 h88
  have e1' : f81 n (0 : Int32) s = _ := e1
  rw [e1', gy1, a12]
  have lz := zct_m (P := fun i => decide (s.1 (1036 + 3 * i) 3 = nI 0)) (G 6 8) 0
  rcases dorm_L (n := n) h (G 6 8) 0 n (Nat.zero_add _) (by omega) with ⟨b1, b2⟩ | ⟨⟨k, k1, k2, k3⟩, b2⟩
  · have b2' : f240 n t = some (1, t) := b2
    have ez : zct (fun i => decide (s.1 (1036 + 3 * i) 3 = nI 0)) (G 6 8) 0 = G 6 8 := by
      rw [zct_eq (Q := fun _ => true) (G 6 8) 0 (fun i i1 i2 => decide_eq_true (show s.1 (1036 + 3 * i) 3 = nI 0 from b1 i i1 (by omega))), zct_tr]
    rw [b2', gy1, ez, if_pos rfl, if_neg (by decide)]
    exact ⟨2, by decide, rfl, rfl⟩
  · have b2' : f240 n t = some (0, t) := b2
    have ez : zct (fun i => decide (s.1 (1036 + 3 * i) 3 = nI 0)) (G 6 8) 0 < G 6 8 := by
      have := zct_lt (P := fun i => decide (s.1 (1036 + 3 * i) 3 = nI 0)) (Q := fun _ => true) (e := k) (G 6 8) 0 (fun _ _ _ _ => rfl) k1 (by omega) (fun w => k3 (of_decide_eq_true w)) rfl
      rw [zct_tr] at this
      exact this
    rw [b2', gy1, if_pos rfl, if_neg (fun e => by have := (neqN (by omega) (by omega)).mp e; omega)]
    exact ⟨0, by decide, rfl, rfl⟩
theorem rH_e (h : RUN G F W B C x y s t) {d e : Nat} (hk : k < 16) (h1 : s.1 1023 k = nI d) (hd : d ≤ 1000000000) (h2 : s.1 1024 k = nI e) (he : e ≤ 1000000000) (e0 : e ≠ 0) : s.1 1007 14 + nI (G 22 0) ≤ nI d := by
  have w : tmS k s := by
    unfold tmS
    rw [h1]
    exact fun q => by have := (nltN (b := 0) (by omega) (by decide)).mp q; omega
  obtain ⟨d', e', a1, a2, a3, a4, -, -, -, -, -, -, -, a12⟩ := (tmS_m h hk).1 w
  have ed : d' = d := (neqN (by omega) (by omega)).mp (a3.symm.trans h1)
  have ee : e' = e := (neqN (by omega) (by omega)).mp (a4.symm.trans h2)
  subst ed ee
  exact a12.resolve_left e0
set_option maxHeartbeats 1000000 in
theorem grain_ok {fu : Nat} {x1 x2 : Int32} (hn : 1000 ≤ n) (hB : B + 10 < 900000000) (hC : C + 1000 < 799998000) (h : RUN (Gh G a b 0) F W B C x y s t) (hN : Nob n x s) (l : x2 < x1) (l29 : t.1 1132 29 < 4000) : (∃ v s2 t2 F2 W2 C2 a2 b2, ¬ v = 1 ∧ f83 n s = some (v, s2) ∧ f221_27 n (fu + 1) x1 x2 t = some (v, t2) ∧ RUN (Gh G a2 b2 0) F2 W2 B C2 x y s2 t2 ∧ Nob n x s2 ∧ C2 ≤ C + 400) ∨ (∃ s2 t2 F2 W2 B2 C2 a2 b2, f83 n s = some (1, s2) ∧ f221_27 n (fu + 1) x1 x2 t = f221_27 n fu x1 (x2 + 1) t2 ∧ RUN (Gh G a2 b2 0) F2 W2 B2 C2 x y s2 t2 ∧ Nob n x s2 ∧ B2 ≤ B + 4 ∧ C2 ≤ C + 400) := by
  have hxx := h.1.1
  obtain ⟨s1, t1, F1, W1, C1, u1, u2, u3, u4, u5, u6, -⟩ := due_ok hn (by omega) (by omega) h hN
  obtain ⟨c, s3, t3, v0, v1, v2, v3, v4, v5, v6, v7⟩ := choose_ok hn u3
  have h88 : G 6 8 ≤ 8 := (h.2.1.1.1 8 (by decide)).2.2
  have eC : f83 n s = (if nI c = 0 then yb1 (f85 n s3) fun v5 u4 => if v5 = (-1 : Int32) then yb1 (f81 n (0 : Int32) u4) fun v8 u7 => if v8 = (u7.1 1007 12) then some ((2 : Int32), u7) else some ((0 : Int32), u7) else if zin? v5 16 = true then zlet (sI u4 1007 14 (u4.1 1023 (nx v5))) fun u6 => f83_112 n u6 else none else f83_62 n n (nI c) (0 : Int32) s3) := by
    unfold f83
    rw [u1, gy0, v1, gy1]
  have eM : f221_27 n (fu + 1) x1 x2 t = (if nI c = 0 then yb1 (f223 n t3) fun v5 u4 => if v5 = (-1 : Int32) then yb1 (f240 n u4) fun v8 u7 => if v8 = (0 : Int32) then some ((0 : Int32), u7) else some ((2 : Int32), u7) else if zin? v5 16 = true then zlet (sI u4 1132 20 (u4.1 1241 (nx v5))) fun u6 => f221_153 n (f221_27 n fu) x1 x2 u6 else none else f221_104 n (f221_27 n fu) n x1 x2 (nI c) (0 : Int32) t3) := by
    rw [f221_27, if_pos l, if_pos l29, u2, gy0, v2, gy1]
  -- the orders
  have HA : ∀ k, ∃ m, s3.1 1034 k = nI m ∧ (k < c → m < 8 ∧ t3.1 1248 k = nI m) := by
    intro k
    by_cases q : k < c
    · obtain ⟨m, m1, m2, m3⟩ := v7 k q
      have m1' : m < G 6 8 := m1
      exact ⟨m, m2, fun _ => ⟨by omega, m3⟩⟩
    · obtain ⟨m, hm⟩ := nI_ex (s3.1 1034 k)
      exact ⟨m, hm, fun q2 => absurd q2 q⟩
  obtain ⟨a', ha'⟩ : ∃ a' : Nat → Nat, ∀ k, s3.1 1034 k = nI (a' k) ∧ (k < c → a' k < 8 ∧ t3.1 1248 k = nI (a' k)) := ⟨fun k => (HA k).choose, fun k => (HA k).choose_spec⟩
  have HB : ∀ k, ∃ m, t3.1 1248 k = nI m ∧ (k < c → m = a' k) := by
    intro k
    by_cases q : k < c
    · exact ⟨a' k, ((ha' k).2 q).2, fun _ => rfl⟩
    · obtain ⟨m, hm⟩ := nI_ex (t3.1 1248 k)
      exact ⟨m, hm, fun q2 => absurd q2 q⟩
  obtain ⟨b', hb'⟩ : ∃ b' : Nat → Nat, ∀ k, t3.1 1248 k = nI (b' k) ∧ (k < c → b' k = a' k) := ⟨fun k => (HB k).choose, fun k => (HB k).choose_spec⟩
  obtain ⟨m, hm, em⟩ := u3.2.2.1.2.1.2.2
  have eT : s1.1 1007 14 = t1.1 1132 20 := u3.2.2.1.1.1
  have hN3 : Nob n x s3 := Nob_ag hxx u5 (fun a ha => v4 a (by omega))
  have hz : Gh G a b 0 22 0 = 0 := rfl
  by_cases c0 : c = 0
  · have q0 : nI c = 0 := by rw [c0]; rfl
    rw [if_pos q0] at eC eM
    have h3 : RUN (Gh G a' b' 0) F1 W1 B C1 x y s3 t3 := by
      have := RUN_H (a := a') (b := b') (g := 0) (m := m) (B2 := B) u3 (Nat.le_refl _) v3 (fun a q1 q2 => v4 a q1) (fun k _ => by rw [v4 1007 (by decide)]) (by rw [v4 1007 (by decide)]; exact em) v5 (fun a q1 q2 => v6 a q1) (fun k _ => by rw [v6 1132 (by decide)]) (by rw [v6 1132 (by decide), ← eT]; exact em) hm (fun k _ => (ha' k).1) (fun k _ => (hb' k).1) (by decide) (fun k d e hk hd h1 h2 he e0 => by
        have := rH_e u3 hk h1 hd h2 he e0
        rw [hz, em] at this
        exact this)
      rw [Gh_Gh] at this
      exact this
    obtain ⟨eb, b1, b2, b3⟩ := early_ok hn h3
    rw [b2, gy1] at eC
    rw [b3, gy1] at eM
    cases eb with
    | none =>
      rw [enc_n, if_pos rfl] at eC eM
      obtain ⟨w, w1, w2, w3⟩ := still_ok hn h3
      exact Or.inl ⟨w, s3, t3, F1, W1, C1, a', b', w1, by rw [eC, w2], by rw [eM, w3], h3, hN3, by omega⟩
    | some k =>
      obtain ⟨k1, k2, k3⟩ := b1
      obtain ⟨d, e, g1, g2, g3, g4, g5, g6, g7, g8, g9, g10, g11, g12⟩ := (tmS_m h3 k1).1 k2
      have nk1 : ¬ nI k = -1 := fun e => (neqM (show k < 2 ^ 31 by omega)).mp e
      have z16 : zin? (nI k) 16 = true := (zinN (by omega)).mpr k1
      rw [enc_s, if_neg nk1, if_pos z16, zlet, nxN (show k < 2 ^ 31 by omega), g3] at eC
      rw [enc_s, if_neg nk1, if_pos z16, zlet, nxN (show k < 2 ^ 31 by omega), g6] at eM
      have h4 : RUN (Gh G a' b' 0) F1 W1 B C1 x y (sI s3 1007 14 (nI d)) (sI t3 1132 20 (nI d)) := by
        have := RUN_H (a := a') (b := b') (g := 0) (m := d) (B2 := B) (s2 := sI s3 1007 14 (nI d)) (t2 := sI t3 1132 20 (nI d)) h3 (Nat.le_refl _) rfl (fun a q1 q2 => hIo q2) (fun k q => hIk q) hIe rfl (fun a q1 q2 => hIo q2) (fun k q => hIk q) hIe (by omega) (fun k _ => by rw [hIo (by decide)]; exact (ha' k).1) (fun k _ => by rw [hIo (by decide)]; exact (hb' k).1) (by decide) (fun k' d' e' hk' hd' h1 h2 he e0 => by
          have tk : tmS k' s3 := by
            unfold tmS
            rw [h1]
            exact fun q => by have := (nltN (b := 0) (by omega) (by decide)).mp q; omega
          have := k3 k' hk' tk
          rw [h1, g3] at this
          rw [naddN]
          have l2 : ¬ d' < d := fun q => this ((nltN (by omega) (by omega)).mpr q)
          exact (nle_N (by omega) (by omega)).mpr (by omega))
        rw [Gh_Gh] at this
        exact this
      have h5 := cnt6_ok h4
      refine Or.inr ⟨_, _, F1, W1, B, C1, a', b', ?_, ?_, h5, ?_, by omega, by omega⟩
      · rw [eC]
        rfl
      · rw [eM]
        rfl
      · exact Nob_ag hxx hN3 (fun a ha => by rw [hIo (by omega), hIo (by omega)])
  · have q0 : ¬ nI c = 0 := fun e => c0 ((neq0 (by omega)).mp e)
    rw [if_neg q0] at eC eM
    have h3 : RUN (Gh G a' b' 1) F1 W1 B C1 x y s3 t3 := by
      have := RUN_H (a := a') (b := b') (g := 1) (m := m) (B2 := B) u3 (Nat.le_refl _) v3 (fun a q1 q2 => v4 a q1) (fun k _ => by rw [v4 1007 (by decide)]) (by rw [v4 1007 (by decide)]; exact em) v5 (fun a q1 q2 => v6 a q1) (fun k _ => by rw [v6 1132 (by decide)]) (by rw [v6 1132 (by decide), ← eT]; exact em) hm (fun k _ => (ha' k).1) (fun k _ => (hb' k).1) (by decide) (fun k d e hk hd h1 h2 he e0 => by
        have tk : tmS k s1 := by
          unfold tmS
          rw [h1]
          exact fun q => by have := (nltN (b := 0) (by omega) (by decide)).mp q; omega
        have := u6 k hk tk
        rw [h1, em] at this
        have := (nltN (by omega) (by omega)).mp this
        rw [naddN]
        exact (nle_N (by omega) (by omega)).mpr (by omega))
      rw [Gh_Gh] at this
      exact this
    have hG' : ∀ q, q < c → Gh G a' b' 1 21 q = Gh G a' b' 1 20 q ∧ Gh G a' b' 1 20 q < 8 := fun q hq => ⟨(hb' q).2 hq, ((ha' q).2 hq).1⟩
    obtain ⟨s4, t4, F4, W4, B4, C4, w1, w2, w3, w4, w5, w6⟩ := gr_L (r27 := f221_27 n fu) (x1 := x1) (x2 := x2) hn v0 hG' c 0 n n B C1 F1 W1 s3 t3 h3 hN3 (Nat.zero_add _) (by omega) (by omega) (by omega) (by omega)
    obtain ⟨m4, hm4, em4⟩ := w3.2.2.1.2.1.2.2
    have eT4 : s4.1 1007 14 = t4.1 1132 20 := w3.2.2.1.1.1
    have ord := w3.2.2.1.1.2.2.2.2.2.2.2.2.1
    have h5 : RUN (Gh G a' b' 0) F4 W4 (B4 + 1) C4 x y (sI s4 1007 14 (nI (m4 + 1))) (sI t4 1132 20 (nI (m4 + 1))) := by
      have := RUN_H (a := a') (b := b') (g := 0) (m := m4 + 1) (B2 := B4 + 1) (s2 := sI s4 1007 14 (nI (m4 + 1))) (t2 := sI t4 1132 20 (nI (m4 + 1))) w3 (Nat.le_succ _) rfl (fun a q1 q2 => hIo q2) (fun k q => hIk q) hIe rfl (fun a q1 q2 => hIo q2) (fun k q => hIk q) hIe (by omega) (fun k hk => by rw [hIo (by decide)]; exact (ord k hk).1) (fun k hk => by rw [hIo (by decide)]; exact (ord k hk).2) (by decide) (fun k' d' e' hk' hd' h1 h2 he e0 => by
        have := rH_e w3 hk' h1 hd' h2 he e0
        have hz1 : Gh G a' b' 1 22 0 = 1 := rfl
        rw [hz1, em4, naddN] at this
        rw [naddN]
        exact this)
      rw [Gh_Gh] at this
      exact this
    have h6 := cnt6_ok h5
    have eC' : f83_62 n n (nI c) (0 : Int32) s3 = f83_112 n (sI s4 1007 14 (nI (m4 + 1))) := by
      have := w1
      rw [em4, nI_1] at this
      exact this
    have eM' : f221_104 n (f221_27 n fu) n x1 x2 (nI c) (0 : Int32) t3 = f221_153 n (f221_27 n fu) x1 x2 (sI t4 1132 20 (nI (m4 + 1))) := by
      have := w2
      rw [← eT4, em4, nI_1] at this
      exact this
    refine Or.inr ⟨_, _, F4, W4, B4 + 1, C4, a', b', ?_, ?_, h6, ?_, by omega, by omega⟩
    · rw [eC, eC']
      rfl
    · rw [eM, eM']
      rfl
    · exact Nob_ag hxx w4 (fun a ha => by rw [hIo (by omega), hIo (by omega)])
/-- many grains -/
theorem run_L {gn : Nat} (hn : 1000 ≤ n) (hgn : gn ≤ 500) : ∀ m k fu fu2 B C (a b : Nat → Nat) (F : Nat → Nat → Nat → Nat) (W : Nat → Nat → Nat) (s t : zσ), RUN (Gh G a b 0) F W B C x y s t → Nob n x s → k + m = gn → m < fu → m < fu2 → B + 4 * m + 10 < 900000000 → C + 400 * m + 1000 < 799998000 → ∃ v s2 t2 F2 W2 B2 C2 a2 b2, f82_30 n fu (nI gn) (nI k) s = some (v, s2) ∧ f221_27 n fu2 (nI gn) (nI k) t = some (v, t2) ∧ RUN (Gh G a2 b2 0) F2 W2 B2 C2 x y s2 t2 ∧ Nob n x s2 ∧ B2 ≤ B + 4 * m ∧ C2 ≤ C + 400 * m := by
  intro m
  induction m with
  | zero =>
    intro k fu fu2 B C a b F W s t h hN hk hf hf2 hB hC
    obtain ⟨fu, rfl⟩ : ∃ f0, fu = f0 + 1 := ⟨fu - 1, by omega⟩
    obtain ⟨fu2, rfl⟩ : ∃ f0, fu2 = f0 + 1 := ⟨fu2 - 1, by omega⟩
    refine ⟨1, s, t, F, W, B, C, a, b, ?_, ?_, h, hN, by omega, by omega⟩
    · rw [f82_30, show k = gn by omega, if_neg Int32.lt_irrefl]
    · rw [f221_27, show k = gn by omega, if_neg Int32.lt_irrefl]
  | succ m ih =>
    intro k fu fu2 B C a b F W s t h hN hk hf hf2 hB hC
    obtain ⟨fu, rfl⟩ : ∃ f0, fu = f0 + 1 := ⟨fu - 1, by omega⟩
    obtain ⟨fu2, rfl⟩ : ∃ f0, fu2 = f0 + 1 := ⟨fu2 - 1, by omega⟩
    have l : nI k < nI gn := (nltN (by omega) (by omega)).mpr (by omega)
    have e4 : s.1 1030 4 = t.1 1132 29 := h.2.2.2.1.1
    by_cases q : s.1 1030 4 < 4000
    · have q2 : t.1 1132 29 < 4000 := by rw [← e4]; exact q
      rcases grain_ok (fu := fu2) hn (by omega) (by omega) h hN l q2 with ⟨v, s2, t2, F2, W2, C2, a2, b2, w0, w1, w2, w3, w4, w5⟩ | ⟨s2, t2, F2, W2, B2, C2, a2, b2, w1, w2, w3, w4, w5, w6⟩
      · have l3 : C2 ≤ C + 400 * (m + 1) := Nat.le_trans w5 (Nat.add_le_add_left (Nat.le_mul_of_pos_right 400 (Nat.succ_pos m)) C)
        have e1 : f82_30 n (fu + 1) (nI gn) (nI k) s = some (v, s2) := by
          rw [f82_30, if_pos l, if_pos q, w1, gy1, if_neg w0]
        exact ⟨v, s2, t2, F2, W2, B, C2, a2, b2, e1, w2, w3, w4, Nat.le_add_right _ _, l3⟩
      · obtain ⟨v, s3, t3, F3, W3, B3, C3, a3, b3, i1, i2, i3, i4, i5, i6⟩ := ih (k + 1) fu fu2 B2 C2 a2 b2 F2 W2 s2 t2 w3 w4 (by omega) (by omega) (by omega) (by omega) (by omega)
        refine ⟨v, s3, t3, F3, W3, B3, C3, a3, b3, ?_, ?_, i3, i4, by omega, by omega⟩
        · rw [f82_30, if_pos l, if_pos q, w1, gy1, if_pos rfl, naddL, i1]
        · rw [w2, naddL, i2]
    · refine ⟨-4, s, t, F, W, B, C, a, b, ?_, ?_, h, hN, by omega, by omega⟩
      · rw [f82_30, if_pos l, if_neg q]
      · rw [f221_27, if_pos l, if_neg (by rw [← e4]; exact q)]
end ZCS
