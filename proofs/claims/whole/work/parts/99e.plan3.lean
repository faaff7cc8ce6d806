/-! the acts start and go with a time, whole -/
section ZAX
variable {G W W2 : Nat → Nat → Nat} {F F2 : Nat → Nat → Nat → Nat} {B C B2 C2 x y n i D r o v u kk : Nat} {s t s2 t2 : zσ}
theorem m_133w {w : Nat} {I R K Q un : Int32} {X : Int64} (hw : 1 ≤ w ∧ w < 20) (h69 : t.1 1132 69 = nI w) : f264_133 n I R K Q X un t = some t := by
  have nz : ¬ t.1 1132 69 = 0 := fun q => by rw [h69] at q; have := (neq0 (show w < 2 ^ 31 by omega)).mp q; omega
  unfold f264_133
  rw [if_neg nz]
theorem pl_1 {K a b v : Int32} (h : aH G F W B C x y i D r s t) (hab : b + a = nI kk) (e19 : t.1 (y + 19) r = K) (hK : ¬ K = 4) (e20 : t.1 (y + 20) r = 1) (o2 : scM t t2) (hf : f243 n (nI i) (t.1 (y + 22) (4 * r)) t = some (v, t2)) : f264_38 n (nI i) (nI r) a b t = f264_133 n (nI i) (nI r) (nI kk) K v.toInt64 2147483647 t2 := by
  have hr := aH_r h
  obtain ⟨hxx, hyy, r9, r11, w3, w4, w6, zr, z8, hi⟩ := aH_k h
  have k12 := gck12 hyy
  have nr := nxN (show r < 2 ^ 31 by omega)
  have t11 : t2.2.2 1132 11 = some y := by rw [o2.1]; exact r11
  have t20 : t2.1 (y + 20) r = 1 := by rw [scM_a o2 (by omega) (by omega) (by omega) (by omega)]; exact e20
  unfold f264_38
  rw [zlet, hab, r11, grd k12, if_pos zr, zlet, nr, e19, if_neg hK, grd k12, nLmul, if_pos z8, nxN (show 4 * r < 2 ^ 31 by omega), hf, gy1, zlet]
  by_cases q : t2.1 1132 69 = 0
  · rw [if_pos q, t11, grd k12, if_pos zr, t20, if_neg (by decide)]
    rfl
  · rw [if_neg q]
    rfl
theorem pl_2 {K a b v v1 : Int32} {t1 : zσ} (h : aH G F W B C x y i D r s t) (hab : b + a = nI kk) (e19 : t.1 (y + 19) r = K) (hK : ¬ K = 4) (e20 : t.1 (y + 20) r = 2) (o2 : scM t t1) (h1 : t1.1 1132 69 = 0) (hf : f243 n (nI i) (t.1 (y + 22) (4 * r)) t = some (v, t1)) (hf2 : f243 n (nI i) (t.1 (y + 22) (4 * r + 1)) t1 = some (v1, t2)) : f264_38 n (nI i) (nI r) a b t = f264_133 n (nI i) (nI r) (nI kk) K v.toInt64 v1 t2 := by
  have hr := aH_r h
  obtain ⟨hxx, hyy, r9, r11, w3, w4, w6, zr, z8, hi⟩ := aH_k h
  have k12 := gck12 hyy
  have nr := nxN (show r < 2 ^ 31 by omega)
  have t11 : t1.2.2 1132 11 = some y := by rw [o2.1]; exact r11
  have t20 : t1.1 (y + 20) r = 2 := by rw [scM_a o2 (by omega) (by omega) (by omega) (by omega)]; exact e20
  have t22 : t1.1 (y + 22) (4 * r + 1) = t.1 (y + 22) (4 * r + 1) := by rw [scM_a o2 (by omega) (by omega) (by omega) (by omega)]
  have z81 : zin? (nI (4 * r + 1)) 800 = true := (zinN (by omega)).mpr (by omega)
  unfold f264_38
  rw [zlet, hab, r11, grd k12, if_pos zr, zlet, nr, e19, if_neg hK, grd k12, nLmul, if_pos z8, nxN (show 4 * r < 2 ^ 31 by omega), hf, gy1, zlet, if_pos h1, t11, grd k12, if_pos zr, t20, if_pos rfl, grd k12, naddL, if_pos z81, nxN (show 4 * r + 1 < 2 ^ 31 by omega), t22, hf2, gy1]
theorem pl_2w {K a b v : Int32} {w : Nat} (hw : 1 ≤ w ∧ w < 20) (h : aH G F W B C x y i D r s t) (hab : b + a = nI kk) (e19 : t.1 (y + 19) r = K) (hK : ¬ K = 4) (h1 : t2.1 1132 69 = nI w) (hf : f243 n (nI i) (t.1 (y + 22) (4 * r)) t = some (v, t2)) : f264_38 n (nI i) (nI r) a b t = some t2 := by
  have hr := aH_r h
  obtain ⟨hxx, hyy, r9, r11, w3, w4, w6, zr, z8, hi⟩ := aH_k h
  have k12 := gck12 hyy
  have nr := nxN (show r < 2 ^ 31 by omega)
  have nz : ¬ t2.1 1132 69 = 0 := fun q => by rw [h1] at q; have := (neq0 (show w < 2 ^ 31 by omega)).mp q; omega
  unfold f264_38
  rw [zlet, hab, r11, grd k12, if_pos zr, zlet, nr, e19, if_neg hK, grd k12, nLmul, if_pos z8, nxN (show 4 * r < 2 ^ 31 by omega), hf, gy1, zlet, if_neg nz]
  exact m_133w hw h1
theorem nle_of {a b : Nat} (hb : b < 2 ^ 31) (h : a ≤ b) : nI a ≤ nI b := Int32.not_lt.mp (fun q => by have := (nltN hb (show a < 2 ^ 31 by omega)).mp q; omega)
theorem hv_1 {a0 : Int32} {m g : Nat} (hm : m < 2 ^ 31) (q1 : ¬ a0 < nI m) (q2 : ¬ (1000000000 : Int64) < a0.toInt64) : ∃ a b, a ≤ 1000000000 ∧ b ≤ 1000000000 ∧ a0.toInt64.toInt32 = nI a ∧ (0 : Int32) = nI b ∧ (b = 0 ∨ nI m + nI g ≤ nI a) := by
  have q0 : ¬ a0 < 0 := by
    intro q
    apply q1
    by_cases e : m = 0
    · rw [e]; exact q
    · exact Int32.lt_trans q ((nltN (a := 0) (by decide) hm).mpr (by omega))
  obtain ⟨p, hp, ep⟩ := nI_of q0
  refine ⟨p, 0, ?_, by decide, by rw [Int32.toInt32_toInt64, ep], rfl, Or.inl rfl⟩
  rcases Nat.lt_or_ge 1000000000 p with q | q
  · refine absurd ?_ q2
    rw [ep]
    exact i64_lt.mpr ((nltN (a := 1000000000) (by decide) hp).mpr q)
  · exact q
theorem hv_2 {a0 : Int32} {m g : Nat} (hg : g ≤ 1) (hm : m < 2 ^ 31) (q1 : ¬ a0 < 1) (q2 : ¬ (1000000000 : Int64) < (nI m).toInt64 + a0.toInt64) : (∃ a b, a ≤ 1000000000 ∧ b ≤ 1000000000 ∧ ((nI m).toInt64 + a0.toInt64).toInt32 = nI a ∧ (0 : Int32) = nI b ∧ (b = 0 ∨ nI m + nI g ≤ nI a)) ∧ (∃ a b, a ≤ 1000000000 ∧ b ≤ 1000000000 ∧ ((nI m).toInt64 + a0.toInt64).toInt32 = nI a ∧ a0 = nI b ∧ (b = 0 ∨ nI m + nI g ≤ nI a)) := by
  have q0 : ¬ a0 < 0 := fun q => q1 (Int32.lt_trans q (by decide))
  obtain ⟨p, hp, ep⟩ := nI_of q0
  rw [ep] at q2 ⊢
  obtain ⟨l1, l2⟩ := i64_sum2 hm hp q2
  exact ⟨⟨m + p, 0, l1, by decide, l2, rfl, Or.inl rfl⟩, ⟨m + p, p, l1, by omega, l2, rfl, Or.inr (by
    have p1 : 1 ≤ p := by
      rcases Nat.lt_or_ge p 1 with q | q
      · rw [ep] at q1; exact absurd ((nltN (b := 1) hp (by decide)).mpr q) q1
      · exact q
    rw [naddN]; exact nle_of (by omega) (by omega))⟩⟩
theorem plan_act {a b : Int32} (hb : bR B C n) (h : aH G F W B C x y i D r s t) (h69 : t.1 1132 69 = 0) (hk : kk < 2 * G 6 8) (hab : b + a = nI kk) (hF : ∀ s2, scC s s2 → f97 n (1036 + 3 * i) (nI r) s2 = f124 n (nI kk) (s.1 (x + 22) r) s2) (hM : f242 n (nI i) (nI r) t = f264_38 n (nI i) (nI r) a b t) (hd : (t.1 (y + 19) r = nI 1 ∧ s.1 (x + 22) r = 145 ∧ t.1 (y + 20) r = 1 ∧ tE G x y r 1 s t) ∨ (t.1 (y + 19) r = nI 2 ∧ s.1 (x + 22) r = 146 ∧ t.1 (y + 20) r = 1 ∧ tE G x y r 1 s t) ∨ (t.1 (y + 19) r = nI 3 ∧ s.1 (x + 22) r = 147 ∧ t.1 (y + 20) r = 1 ∧ tE G x y r 1 s t) ∨ (t.1 (y + 19) r = nI 3 ∧ s.1 (x + 22) r = 141 ∧ t.1 (y + 20) r = 2 ∧ tE G x y r 2 s t) ∨ (t.1 (y + 19) r = nI 4 ∧ uA G y 4 t (s.1 (x + 22) r) (t.1 (y + 18) r) ∧ tE G x y r 0 s t)) : pR G B C x y (cP n i r s) (mP n i r t) := by
  have lB := hb.2.2
  have hg : G 22 0 ≤ 1 := (aH_d h).1.2.2.2.2.2.2.2.2.2.1.2.2
  have tms : ∀ s2 t2, aH G F W B C x y i D r s2 t2 → s2.1 1007 14 = t2.1 1132 20 ∧ ∃ m, m < 2 ^ 31 ∧ s2.1 1007 14 = nI m := by
    intro s2 t2 h2
    obtain ⟨⟨d1, d2, d3, d4, d5, d6, d7, d8, d9, d10, d11⟩, dE⟩ := aH_d h2
    obtain ⟨-, -, m, e1, e2⟩ := d2
    exact ⟨d1.1, m, by omega, e2⟩
  rcases hd with ⟨e19, e22, e20, hE⟩ | ⟨e19, e22, e20, hE⟩ | ⟨e19, e22, e20, hE⟩ | ⟨e19, e22, e20, hE⟩ | ⟨e19, hA, hE⟩
  · have e19' : t.1 (y + 19) r = (1 : Int32) := e19
    obtain ⟨s2, t2, o1, o2, o3⟩ := work_1 hb.1 h h69 hE
    have h2 := aH_sc o1 o2 h
    obtain ⟨tm, m, hm, em⟩ := tms s2 t2 h2
    rcases o3 with ⟨c1, m1, m2⟩ | ⟨w, w1, w2, c1, m1, m2⟩
    · exact plan_num hb h2 m1 c1 hk (by rw [hF s2 o1, e22]; exact c_145) (by rw [hM, pl_1 h hab e19' (by decide) e20 o2 m2, m_k1 (un := 0) m1, ← tm]) (by decide) (Or.inl ⟨rfl, rfl⟩) (fun q1 q2 => by rw [em] at q1 ⊢; exact hv_1 hm q1 q2)
    · exact sig_1 hb h o1 o2 ⟨w1, w2⟩ m1 c1 (by rw [hM, pl_2w ⟨w1, w2⟩ h hab e19' (by decide) m1 m2])
  · have e19' : t.1 (y + 19) r = (2 : Int32) := e19
    obtain ⟨s2, t2, o1, o2, o3⟩ := work_1 hb.1 h h69 hE
    have h2 := aH_sc o1 o2 h
    obtain ⟨tm, m, hm, em⟩ := tms s2 t2 h2
    rcases o3 with ⟨c1, m1, m2⟩ | ⟨w, w1, w2, c1, m1, m2⟩
    · exact plan_num hb h2 m1 c1 hk (by rw [hF s2 o1, e22]; exact c_146) (by rw [hM, pl_1 h hab e19' (by decide) e20 o2 m2, m_k2 (un := 0) m1, ← tm]) (by decide) (Or.inl ⟨rfl, rfl⟩) (fun q1 q2 => by rw [em] at q2 ⊢; exact (hv_2 hg hm q1 q2).1)
    · exact sig_1 hb h o1 o2 ⟨w1, w2⟩ m1 c1 (by rw [hM, pl_2w ⟨w1, w2⟩ h hab e19' (by decide) m1 m2])
  · have e19' : t.1 (y + 19) r = (3 : Int32) := e19
    obtain ⟨s2, t2, o1, o2, o3⟩ := work_1 hb.1 h h69 hE
    have h2 := aH_sc o1 o2 h
    obtain ⟨tm, m, hm, em⟩ := tms s2 t2 h2
    rcases o3 with ⟨c1, m1, m2⟩ | ⟨w, w1, w2, c1, m1, m2⟩
    · exact plan_num hb h2 m1 c1 hk (by rw [hF s2 o1, e22]; exact c_147) (by rw [hM, pl_1 h hab e19' (by decide) e20 o2 m2, m_k3 m1, ← tm]) (by decide) (Or.inr ⟨by decide, rfl⟩) (fun q1 q2 => by rw [em] at q2 ⊢; exact (hv_2 hg hm q1 q2).2)
    · exact sig_1 hb h o1 o2 ⟨w1, w2⟩ m1 c1 (by rw [hM, pl_2w ⟨w1, w2⟩ h hab e19' (by decide) m1 m2])
  · have e19' : t.1 (y + 19) r = (3 : Int32) := e19
    obtain ⟨s2, t2, o1, o2, o3⟩ := work_2 hb.1 h h69 hE
    have h2 := aH_sc o1 o2 h
    obtain ⟨tm, m, hm, em⟩ := tms s2 t2 h2
    rcases o3 with ⟨t1, c1, p1, p2, p3, p4, p5⟩ | ⟨w, w1, w2, c1, m1, m2⟩
    · exact plan_num hb h2 p3 c1 hk (by rw [hF s2 o1, e22]; exact c_141) (by rw [hM, pl_2 h hab e19' (by decide) e20 p1 p2 p4 p5, m_k3 p3, ← tm]) (by decide) (Or.inr ⟨by decide, rfl⟩) (fun q1 q2 => by rw [em] at q2 ⊢; exact (hv_2 hg hm q1 q2).2)
    · refine sig_1 hb h o1 o2 ⟨w1, w2⟩ m1 c1 ?_
      rcases m2 with m2 | ⟨t1, v0, p1, p2, p3, p4⟩
      · rw [hM, pl_2w ⟨w1, w2⟩ h hab e19' (by decide) m1 m2]
      · rw [hM, pl_2 h hab e19' (by decide) e20 p1 p2 p3 p4]
        exact m_133w ⟨w1, w2⟩ m1
  · obtain ⟨u, j, hu0, hj, e18, e33, e22⟩ := hA
    have h64 := h.1.1.2.1.1.2.1
    have hj4 : j < 4 := by omega
    have e19' : t.1 (y + 19) r = (4 : Int32) := e19
    have hr := aH_r h
    obtain ⟨hxx, hyy, r9, r11, w3, w4, w6, zr, z8, hi⟩ := aH_k h
    have k12 := gck12 hyy
    have nr := nxN (show r < 2 ^ 31 by omega)
    have c1 := work_0 hb.1 h hE
    have h2 : aH G F W B C x y i D r (sI s 1007 16 0) t := aH_sc scC_160 scM_rf h
    obtain ⟨x5, x6, ec⟩ := c_irpt (n := n) (kk := kk) (s := sI s 1007 16 0) hj4
    refine plan_fin (d := -2000000000) (iv := nI j) (k4 := 4) (X5 := -2000000000) (x7 := 0) hb h2 h69 c1 hk (by rw [hF _ scC_160, e22]; exact ec) ?_ (Or.inl ⟨rfl, rfl, rfl⟩) (Or.inl ⟨rfl, rfl⟩) (by decide) (Or.inl ⟨rfl, u, hu0, e18, e33⟩) (Or.inr ⟨j, hj4, rfl, rfl⟩)
    rw [hM]
    unfold f264_38
    rw [zlet, hab, r11, grd k12, if_pos zr, zlet, nr, e19', if_pos rfl]
theorem act_16 (hb : bR B C n) (hC : C < 799999999) (h : aH G F W B C x y i D r s t) (h69 : t.1 1132 69 = 0) (hk : G 10 r = 16) : pR G B C x y (cP n i r s) (mP n i r t) := by
  have hr := aH_r h
  obtain ⟨hxx, hyy, r9, r11, w3, w4, w6, zr, z8, hi⟩ := aH_k h
  obtain ⟨k9, k6, k0⟩ := gck9 hxx
  have k12 := gck12 hyy
  have e15 : t.1 (y + 15) r = 16 := by rw [w4, hk]; rfl
  by_cases n19 : t.1 (y + 19) r = nI 0
  · exact act_16n hb hC h h69 hk n19
  obtain ⟨hA, hd⟩ := tO_16 hk w6
  have hd' : _ := (or_iff_right (fun (q : t.1 (y + 19) r = nI 0 ∧ _) => n19 q.1)).mp hd
  have n22 : ¬ s.1 (x + 22) r = -1 := by
    rcases hd' with ⟨-, q, -⟩ | ⟨-, q, -⟩ | ⟨-, q, -⟩ | ⟨-, q, -⟩ | ⟨-, ⟨u', j, -, hj, -, -, q⟩, -⟩
    · rw [q]; decide
    · rw [q]; decide
    · rw [q]; decide
    · rw [q]; decide
    · have h64 := h.1.1.2.1.1.1 4 (by decide)
      rw [q]
      exact fun e => (neqM (show j < 2 ^ 31 by omega)).mp e
  obtain ⟨u, v, hu0, hv, e17, e33, e21⟩ := hA
  have h88 := (h.1.1.2.1.1.1 8 (by decide)).2.2
  have hv8 : v < 8 := by omega
  have nr := nxN (show r < 2 ^ 31 by omega)
  have rt := h.1.1.1.2.2.2.2.2.2 v hv8
  have z14 : zin? (nI u) 1400 = true := (zinN (by omega)).mpr hu0
  refine plan_act (kk := 2 * v) (a := 0) (b := nI (2 * v)) hb h h69 (by omega) ?_ (fun s2 o1 => ?_) ?_ hd'
  · exact Int32.add_zero _
  · have r9' : s2.2.2 1007 9 = some (x + 19) := by rw [o1.1]; exact r9
    have h2 := aH_sc o1 scM_rf h
    have e20 : s2.1 (x + 19 + 1) r = 167 := by
      have : s2.1 (x + 20) r = nI 167 := zk_lit hk rfl (aH_k h2).2.2.2.2.1
      exact this
    have e21' : s2.1 (x + 19 + 2) r = nI v := by
      have : s2.1 (x + 21) r = s.1 (x + 21) r := by rw [scC_a o1 (by omega) (by omega) (by omega) (by omega)]
      rw [← e21]
      exact this
    have e22' : s2.1 (x + 19 + 3) r = s.1 (x + 22) r := by
      have : s2.1 (x + 22) r = s.1 (x + 22) r := by rw [scC_a o1 (by omega) (by omega) (by omega) (by omega)]
      exact this
    unfold f97
    rw [r9', grd k6, if_pos zr, zlet, if_pos z0_64, zlet, grd k6, if_pos zr, nxN (show r < 2 ^ 31 by omega), x0_n, if_neg (show ¬ _ = (1 : Int32) by rw [e20]; decide), if_neg (show ¬ _ = (91 : Int32) by rw [e20]; decide), if_neg (show ¬ _ = (149 : Int32) by rw [e20]; decide), if_neg (show ¬ _ = (150 : Int32) by rw [e20]; decide), if_neg (show ¬ _ = (151 : Int32) by rw [e20]; decide), if_neg (show ¬ _ = (152 : Int32) by rw [e20]; decide), if_neg (show ¬ _ = (154 : Int32) by rw [e20]; decide), if_neg (show ¬ _ = (155 : Int32) by rw [e20]; decide), if_neg (show ¬ _ = (156 : Int32) by rw [e20]; decide), if_neg (show ¬ _ = (157 : Int32) by rw [e20]; decide), if_neg (show ¬ _ = (158 : Int32) by rw [e20]; decide), if_neg (show ¬ _ = (159 : Int32) by rw [e20]; decide), if_neg (show ¬ _ = (160 : Int32) by rw [e20]; decide), if_neg (show ¬ _ = (161 : Int32) by rw [e20]; decide), if_neg (show ¬ _ = (162 : Int32) by rw [e20]; decide), if_neg (show ¬ _ = (163 : Int32) by rw [e20]; decide), if_neg (show ¬ _ = (164 : Int32) by rw [e20]; decide), if_neg (show ¬ _ = (165 : Int32) by rw [e20]; decide), if_neg (show ¬ _ = (166 : Int32) by rw [e20]; decide), if_neg (show ¬ _ = (172 : Int32) by rw [e20]; decide), if_neg (show ¬ _ = (173 : Int32) by rw [e20]; decide), if_neg (show ¬ _ = (174 : Int32) by rw [e20]; decide), gyT, c_123 hxx r9' zr hr e21' hv8 (by rw [o1.1]; exact rt), e22']
    unfold f123_36
    rw [r9', grd k6, if_pos zr, nxN (show r < 2 ^ 31 by omega), if_pos e20, if_neg n22, nLmul, gyT]
  · have e242 : f242 n (nI i) (nI r) t = yb0 (f263 n (nI i) (nI r) t) fun u1 => some u1 := by
      unfold f242
      rw [r11, grd k12, if_pos zr, nxN (show r < 2 ^ 31 by omega), if_neg (show ¬ _ = (1 : Int32) by rw [e15]; decide), if_neg (show ¬ _ = (2 : Int32) by rw [e15]; decide), if_neg (show ¬ _ = (3 : Int32) by rw [e15]; decide), if_neg (show ¬ _ = (4 : Int32) by rw [e15]; decide), if_neg (show ¬ _ = (5 : Int32) by rw [e15]; decide), if_neg (show ¬ _ = (6 : Int32) by rw [e15]; decide), if_neg (show ¬ _ = (7 : Int32) by rw [e15]; decide), if_neg (show ¬ _ = (8 : Int32) by rw [e15]; decide), if_neg (show ¬ _ = (9 : Int32) by rw [e15]; decide), if_neg (show ¬ _ = (10 : Int32) by rw [e15]; decide), if_neg (show ¬ _ = (11 : Int32) by rw [e15]; decide), if_neg (show ¬ _ = (12 : Int32) by rw [e15]; decide), if_neg (show ¬ _ = (13 : Int32) by rw [e15]; decide), if_neg (show ¬ _ = (14 : Int32) by rw [e15]; decide), if_neg (show ¬ _ = (15 : Int32) by rw [e15]; decide), if_neg (show ¬ _ = (22 : Int32) by rw [e15]; decide), if_neg (show ¬ _ = (23 : Int32) by rw [e15]; decide), if_neg (show ¬ _ = (24 : Int32) by rw [e15]; decide), if_neg (show ¬ _ = (25 : Int32) by rw [e15]; decide), if_neg (show ¬ _ = (26 : Int32) by rw [e15]; decide), if_neg (show ¬ _ = (27 : Int32) by rw [e15]; decide), if_neg (show ¬ _ = (28 : Int32) by rw [e15]; decide)]
      rfl
    rw [e242, gyS]
    unfold f263
    rw [r11, grd k12, if_pos zr, zlet, grd k12, if_pos zr, nr, if_neg (show ¬ t.1 (y + 19) r = 0 from n19), gyS]
    unfold f264
    rw [r11, grd k12, grd k12, if_pos zr, nr, e17, if_pos z14, grd k12, if_pos zr, nxN (show u < 2 ^ 31 by omega), e33, e15, if_neg (by decide), nLmul]
theorem act_17 (hb : bR B C n) (hC : C < 799999999) (h : aH G F W B C x y i D r s t) (h69 : t.1 1132 69 = 0) (hk : G 10 r = 17) : pR G B C x y (cP n i r s) (mP n i r t) := by
  have hr := aH_r h
  obtain ⟨hxx, hyy, r9, r11, w3, w4, w6, zr, z8, hi⟩ := aH_k h
  obtain ⟨k9, k6, k0⟩ := gck9 hxx
  have k12 := gck12 hyy
  have e15 : t.1 (y + 15) r = 17 := by rw [w4, hk]; rfl
  by_cases n19 : t.1 (y + 19) r = nI 0
  · exact act_17n hb hC h h69 hk n19
  obtain ⟨hA, hd⟩ := tO_17 hk w6
  have hd' : _ := (or_iff_right (fun (q : t.1 (y + 19) r = nI 0 ∧ _) => n19 q.1)).mp hd
  have n22 : ¬ s.1 (x + 22) r = -1 := by
    rcases hd' with ⟨-, q, -⟩ | ⟨-, q, -⟩ | ⟨-, q, -⟩ | ⟨-, q, -⟩ | ⟨-, ⟨u', j, -, hj, -, -, q⟩, -⟩
    · rw [q]; decide
    · rw [q]; decide
    · rw [q]; decide
    · rw [q]; decide
    · have h64 := h.1.1.2.1.1.1 4 (by decide)
      rw [q]
      exact fun e => (neqM (show j < 2 ^ 31 by omega)).mp e
  obtain ⟨u, v, hu0, hv, e17, e33, e21⟩ := hA
  have h88 := (h.1.1.2.1.1.1 8 (by decide)).2.2
  have hv8 : v < 8 := by omega
  have nr := nxN (show r < 2 ^ 31 by omega)
  have rt := h.1.1.1.2.2.2.2.2.2 v hv8
  have z14 : zin? (nI u) 1400 = true := (zinN (by omega)).mpr hu0
  refine plan_act (kk := 2 * v + 1) (a := 1) (b := nI (2 * v)) hb h h69 (by omega) ?_ (fun s2 o1 => ?_) ?_ hd'
  · exact naddL (2 * v) 1
  · have r9' : s2.2.2 1007 9 = some (x + 19) := by rw [o1.1]; exact r9
    have h2 := aH_sc o1 scM_rf h
    have e20 : s2.1 (x + 19 + 1) r = 168 := by
      have : s2.1 (x + 20) r = nI 168 := zk_lit hk rfl (aH_k h2).2.2.2.2.1
      exact this
    have e21' : s2.1 (x + 19 + 2) r = nI v := by
      have : s2.1 (x + 21) r = s.1 (x + 21) r := by rw [scC_a o1 (by omega) (by omega) (by omega) (by omega)]
      rw [← e21]
      exact this
    have e22' : s2.1 (x + 19 + 3) r = s.1 (x + 22) r := by
      have : s2.1 (x + 22) r = s.1 (x + 22) r := by rw [scC_a o1 (by omega) (by omega) (by omega) (by omega)]
      exact this
    unfold f97
    rw [r9', grd k6, if_pos zr, zlet, if_pos z0_64, zlet, grd k6, if_pos zr, nxN (show r < 2 ^ 31 by omega), x0_n, if_neg (show ¬ _ = (1 : Int32) by rw [e20]; decide), if_neg (show ¬ _ = (91 : Int32) by rw [e20]; decide), if_neg (show ¬ _ = (149 : Int32) by rw [e20]; decide), if_neg (show ¬ _ = (150 : Int32) by rw [e20]; decide), if_neg (show ¬ _ = (151 : Int32) by rw [e20]; decide), if_neg (show ¬ _ = (152 : Int32) by rw [e20]; decide), if_neg (show ¬ _ = (154 : Int32) by rw [e20]; decide), if_neg (show ¬ _ = (155 : Int32) by rw [e20]; decide), if_neg (show ¬ _ = (156 : Int32) by rw [e20]; decide), if_neg (show ¬ _ = (157 : Int32) by rw [e20]; decide), if_neg (show ¬ _ = (158 : Int32) by rw [e20]; decide), if_neg (show ¬ _ = (159 : Int32) by rw [e20]; decide), if_neg (show ¬ _ = (160 : Int32) by rw [e20]; decide), if_neg (show ¬ _ = (161 : Int32) by rw [e20]; decide), if_neg (show ¬ _ = (162 : Int32) by rw [e20]; decide), if_neg (show ¬ _ = (163 : Int32) by rw [e20]; decide), if_neg (show ¬ _ = (164 : Int32) by rw [e20]; decide), if_neg (show ¬ _ = (165 : Int32) by rw [e20]; decide), if_neg (show ¬ _ = (166 : Int32) by rw [e20]; decide), if_neg (show ¬ _ = (172 : Int32) by rw [e20]; decide), if_neg (show ¬ _ = (173 : Int32) by rw [e20]; decide), if_neg (show ¬ _ = (174 : Int32) by rw [e20]; decide), gyT, c_123 hxx r9' zr hr e21' hv8 (by rw [o1.1]; exact rt), e22']
    unfold f123_36
    rw [r9', grd k6, if_pos zr, nxN (show r < 2 ^ 31 by omega), if_neg (show ¬ _ = (167 : Int32) by rw [e20]; decide), if_pos e20, if_neg n22, nLmul, naddL, gyT]
  · have e242 : f242 n (nI i) (nI r) t = yb0 (f263 n (nI i) (nI r) t) fun u1 => some u1 := by
      unfold f242
      rw [r11, grd k12, if_pos zr, nxN (show r < 2 ^ 31 by omega), if_neg (show ¬ _ = (1 : Int32) by rw [e15]; decide), if_neg (show ¬ _ = (2 : Int32) by rw [e15]; decide), if_neg (show ¬ _ = (3 : Int32) by rw [e15]; decide), if_neg (show ¬ _ = (4 : Int32) by rw [e15]; decide), if_neg (show ¬ _ = (5 : Int32) by rw [e15]; decide), if_neg (show ¬ _ = (6 : Int32) by rw [e15]; decide), if_neg (show ¬ _ = (7 : Int32) by rw [e15]; decide), if_neg (show ¬ _ = (8 : Int32) by rw [e15]; decide), if_neg (show ¬ _ = (9 : Int32) by rw [e15]; decide), if_neg (show ¬ _ = (10 : Int32) by rw [e15]; decide), if_neg (show ¬ _ = (11 : Int32) by rw [e15]; decide), if_neg (show ¬ _ = (12 : Int32) by rw [e15]; decide), if_neg (show ¬ _ = (13 : Int32) by rw [e15]; decide), if_neg (show ¬ _ = (14 : Int32) by rw [e15]; decide), if_neg (show ¬ _ = (15 : Int32) by rw [e15]; decide), if_neg (show ¬ _ = (22 : Int32) by rw [e15]; decide), if_neg (show ¬ _ = (23 : Int32) by rw [e15]; decide), if_neg (show ¬ _ = (24 : Int32) by rw [e15]; decide), if_neg (show ¬ _ = (25 : Int32) by rw [e15]; decide), if_neg (show ¬ _ = (26 : Int32) by rw [e15]; decide), if_neg (show ¬ _ = (27 : Int32) by rw [e15]; decide), if_neg (show ¬ _ = (28 : Int32) by rw [e15]; decide)]
      rfl
    rw [e242, gyS]
    unfold f263
    rw [r11, grd k12, if_pos zr, zlet, grd k12, if_pos zr, nr, if_neg (show ¬ t.1 (y + 19) r = 0 from n19), gyS]
    unfold f264
    rw [r11, grd k12, grd k12, if_pos zr, nr, e17, if_pos z14, grd k12, if_pos zr, nxN (show u < 2 ^ 31 by omega), e33, e15, if_pos rfl, nLmul]
end ZAX
