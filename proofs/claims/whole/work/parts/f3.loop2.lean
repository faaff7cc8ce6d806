/-! the loops of both readers, both passes -/
section ZRN
variable {U : Nat → Nat} {len x y n K np bl ub dp p m c : Nat} {s0 t0 tz s2 t2 s3 t3 t1 : zσ} {G G2 : Nat → Nat → Nat}
theorem p_10 {q : Nat} {t : zσ} (hn : 5000 ≤ n) (h : MG U len q t) : f170 n 10 t = some (1, t) ↔ tkKind U len q = nI 135 := by
  have w : f170 n 10 t = some (zone (decide (tkKind U len q = nI (128 + 7))), t) := tm_word (w := 7) hn h.1 (by decide) (by decide) (by decide +kernel)
  rw [w]
  constructor
  · intro e
    by_cases hk : tkKind U len q = nI (128 + 7)
    · exact hk
    · rw [zone_0 hk] at e
      have := congrArg (fun o => (o.map (fun p => p.1))) e
      simp only [Option.map_some] at this
      exact absurd (Option.some.inj this) (by decide)
  · intro e
    rw [zone_1 (show tkKind U len q = nI (128 + 7) from e)]
theorem tk_n4 {q : Nat} (hU : zby U len) (hq : q ≤ len) : ¬ tkKind U len q = 4 := by
  intro e4
  rcases tk_cases hU hq with ⟨-, e, -⟩ | ⟨-, e, -⟩ | ⟨-, -, ⟨w, hw, -, e⟩, -⟩ | ⟨-, -, -, e, -⟩ | ⟨-, -, -, e, -⟩ | ⟨hlt, -, -, hs, e, -⟩
  · rw [e4] at e; exact absurd e (by decide)
  · rw [e4] at e; exact absurd e (by decide)
  · rw [e4] at e; have := (nIe (u := 4) (k := 128 + w) (by decide) (by omega)).mp e; omega
  · rw [e4] at e; exact absurd e (by decide)
  · rw [e4] at e; exact absurd e (by decide)
  · rw [e4] at e; have := (nIe (u := 4) (k := U q) (by decide) (hU q hlt)).mp e; have := zsg_b hs (hU q hlt); omega
/-- one turn of both loops, not at the end -/
theorem turn {q i j j2 dp nd cd us : Nat} {s t : zσ} (hE : ER U len x y s0 t0 K np tz G bl ub q dp nd cd us s t) (hi : i ≤ q) (hk : ¬ tkKind U len q = 3) : cLp n (j + 1) (nI i) s = (yb0 (dC n s) fun u => cLp n j (nI (i + 1)) u) ∧ mLp n (j2 + 1) t = (yb0 (f168 n t) fun u => mLp n j2 u) := by
  obtain ⟨hq, hU, h4⟩ := ER_q hE
  have hql := tk_lt hE hk
  constructor
  · rw [cLp, if_pos (show nI i < (4000 : Int32) from nI_lt (b := 4000) (by omega) (by decide)), ER_k hE, if_neg hk, if_neg (tk_n4 hU hq), nI_1]
  · rw [mLp, m_goes hE.2.1.2.2, yb1_s, if_neg n10, if_neg (fun e => hk ((tm_kind hE.2.1.2.1).2.2.mp e))]
theorem turn0 {q i j j2 dp nd cd us : Nat} {s t : zσ} (hE : ER U len x y s0 t0 K np tz G bl ub q dp nd cd us s t) (hk : tkKind U len q = 3) : cLp n (j + 1) (nI i) s = some s ∧ mLp n (j2 + 1) t = some t := by
  constructor
  · rw [cLp, ER_k hE, if_pos hk]
    split <;> rfl
  · rw [mLp, m_goes hE.2.1.2.2, yb1_s, if_neg n10, if_pos ((tm_kind hE.2.1.2.1).2.2.mpr hk)]
/-- the first pass -/
theorem loop1 (hn : 5000 ≤ n) (hS : S0 U len x y s0 t0) (hQ : HQ n U len x y s0 t0 0 tz G 0) (hG : HG 0 y tz G) : ∀ (d : Nat) (cnt : Nat → Nat) (N q nd cd us es na nb : Nat) (s t : zσ) (i j j2 : Nat), len - q ≤ d → d < j → d < j2 → i ≤ q → DR U len x y s0 t0 0 (cnt 7) tz G cnt N q nd cd us es na nb s t → Rs (FC len x s0) (FM len y t0) (ZB 0 y tz) (fun a b => ∃ cnt2 N2 q2 nd2 cd2 us2 es2 na2 nb2, DR U len x y s0 t0 0 (cnt2 7) tz G cnt2 N2 q2 nd2 cd2 us2 es2 na2 nb2 a b ∧ tkKind U len q2 = 3 ∧ cnt 7 ≤ cnt2 7 ∧ (Lt (cnt2 7) y b b → Tr n y b (cnt2 7) j2 (cnt 7) t)) (cLp n j (nI i) s) (mLp n j2 t) := by
  intro d
  induction d with
  | zero =>
    intro cnt N q nd cd us es na nb s t i j j2 hd hj hj2 hi h
    obtain ⟨j, rfl⟩ : ∃ j0, j = j0 + 1 := ⟨j - 1, by omega⟩
    obtain ⟨j2, rfl⟩ : ∃ j0, j2 = j0 + 1 := ⟨j2 - 1, by omega⟩
    have hE := h.1.1
    have hk : tkKind U len q = 3 := by
      by_cases e : tkKind U len q = 3
      · exact e
      · have := tk_lt hE e; omega
    obtain ⟨e1, e2⟩ := turn0 (n := n) (i := i) (j := j) (j2 := j2) hE hk
    exact Rs_A e1 e2 ⟨cnt, N, q, nd, cd, us, es, na, nb, h, hk, Nat.le_refl _, fun hL => ⟨⟨hE.2.1.2.2, hL, Nat.le_refl _⟩, Or.inl ⟨(tm_kind hE.2.1.2.1).2.2.mpr hk, rfl, rfl⟩⟩⟩
  | succ d ih =>
    intro cnt N q nd cd us es na nb s t i j j2 hd hj hj2 hi h
    obtain ⟨j, rfl⟩ : ∃ j0, j = j0 + 1 := ⟨j - 1, by omega⟩
    obtain ⟨j2, rfl⟩ : ∃ j0, j2 = j0 + 1 := ⟨j2 - 1, by omega⟩
    have hE := h.1.1
    by_cases hk : tkKind U len q = 3
    · obtain ⟨e1, e2⟩ := turn0 (n := n) (i := i) (j := j) (j2 := j2) hE hk
      exact Rs_A e1 e2 ⟨cnt, N, q, nd, cd, us, es, na, nb, h, hk, Nat.le_refl _, fun hL => ⟨⟨hE.2.1.2.2, hL, Nat.le_refl _⟩, Or.inl ⟨(tm_kind hE.2.1.2.1).2.2.mpr hk, rfl, rfl⟩⟩⟩
    · obtain ⟨e1, e2⟩ := turn (n := n) (j := j) (j2 := j2) hE hi hk
      rw [e1, e2]
      refine Rs_00 (decl_ok hn hS hQ hG (fun e => absurd e (by decide)) h (fun e => absurd e (by decide))) (fun a b x1 x2 hab => ?_) (fun f z a hF => fc_L (by omega) hF) (fun f z b hM => fm_L (by omega) hM)
      obtain ⟨cnt1, N1, q1, nd1, cd1, us1, es1, na1, nb1, l1, l2, hDR⟩ := hab
      refine Rs_w (ih cnt1 N1 q1 nd1 cd1 us1 es1 na1 nb1 a b (i + 1) j j2 (by omega) (by omega) (by omega) (by omega) hDR) (fun a2 b2 _ _ hab => ?_)
      obtain ⟨cnt2, N2, q2, nd2, cd2, us2, es2, na2, nb2, hDR2, hk2, hle, hT⟩ := hab
      have hpl : cnt 7 ≤ cnt1 7 := by rw [l2]; unfold pN; split <;> omega
      refine ⟨cnt2, N2, q2, nd2, cd2, us2, es2, na2, nb2, hDR2, hk2, by omega, fun hL => ?_⟩
      have hT1 := hT hL
      have hLb : Lt (cnt1 7) y b b2 := by
        obtain ⟨j0, hj0⟩ : ∃ j0, j2 = j0 + 1 := ⟨j2 - 1, by omega⟩
        rw [hj0] at hT1
        exact hT1.1.2.1
      have hLt := b168c hn hS (by decide) hE h.2.2.1 x2 hDR.1.1.2.1.2.2 (l2 ▸ hLb)
      refine ⟨⟨hE.2.1.2.2, hLt, by omega⟩, Or.inr ⟨fun e => hk ((tm_kind hE.2.1.2.1).2.2.mp e), b, cnt1 7, x2, fun e => ?_, fun e => ?_, hT1⟩⟩
      · rw [l2]; exact if_pos ((p_10 hn hE.2.1.2).mp e)
      · rw [l2]; exact if_neg (fun e2 => e ((p_10 hn hE.2.1.2).mpr e2))
/-- the second -/
theorem loop2 (hn : 5000 ≤ n) (hS : S0 U len x y s0 t0) (hQ : HQ n U len x y s0 t0 1 tz G 0) (hG : HG 1 y tz G) : ∀ (d : Nat) (cnt : Nat → Nat) (N q nd cd us es na nb : Nat) (s t : zσ) (i j j2 : Nat), len - q ≤ d → d < j → d < j2 → i ≤ q → DR U len x y s0 t0 1 (cnt 7) tz G cnt N q nd cd us es na nb s t → Tr n y tz (G 6 7) j2 (cnt 7) t → Rs (FC len x s0) (FM len y t0) (ZB 1 y tz) (fun a b => b = tz ∧ ∃ cnt2 N2 q2 nd2 cd2 us2 es2 na2 nb2, DR U len x y s0 t0 1 (cnt2 7) tz G cnt2 N2 q2 nd2 cd2 us2 es2 na2 nb2 a b ∧ tkKind U len q2 = 3) (cLp n j (nI i) s) (mLp n j2 t) := by
  intro d
  induction d with
  | zero =>
    intro cnt N q nd cd us es na nb s t i j j2 hd hj hj2 hi h hT
    obtain ⟨j, rfl⟩ : ∃ j0, j = j0 + 1 := ⟨j - 1, by omega⟩
    obtain ⟨j2, rfl⟩ : ∃ j0, j2 = j0 + 1 := ⟨j2 - 1, by omega⟩
    have hE := h.1.1
    have hk : tkKind U len q = 3 := by
      by_cases e : tkKind U len q = 3
      · exact e
      · have := tk_lt hE e; omega
    obtain ⟨e1, e2⟩ := turn0 (n := n) (i := i) (j := j) (j2 := j2) hE hk
    have htz : t = tz := by
      rcases hT.2 with ⟨-, e, -⟩ | ⟨e, -⟩
      · exact e
      · exact absurd ((tm_kind hE.2.1.2.1).2.2.mpr hk) e
    exact Rs_A e1 e2 ⟨htz, cnt, N, q, nd, cd, us, es, na, nb, h, hk⟩
  | succ d ih =>
    intro cnt N q nd cd us es na nb s t i j j2 hd hj hj2 hi h hT
    obtain ⟨j, rfl⟩ : ∃ j0, j = j0 + 1 := ⟨j - 1, by omega⟩
    obtain ⟨j2, rfl⟩ : ∃ j0, j2 = j0 + 1 := ⟨j2 - 1, by omega⟩
    have hE := h.1.1
    by_cases hk : tkKind U len q = 3
    · obtain ⟨e1, e2⟩ := turn0 (n := n) (i := i) (j := j) (j2 := j2) hE hk
      have htz : t = tz := by
        rcases hT.2 with ⟨-, e, -⟩ | ⟨e, -⟩
        · exact e
        · exact absurd ((tm_kind hE.2.1.2.1).2.2.mpr hk) e
      exact Rs_A e1 e2 ⟨htz, cnt, N, q, nd, cd, us, es, na, nb, h, hk⟩
    · obtain ⟨e1, e2⟩ := turn (n := n) (j := j) (j2 := j2) hE hi hk
      rcases hT.2 with ⟨e, -⟩ | ⟨-, tn, pc1, y1, y2, y3, hT1⟩
      · exact absurd ((tm_kind hE.2.1.2.1).2.2.mp e) hk
      have hpc : pc1 = pN U len q cnt := by
        by_cases e : tkKind U len q = nI 135
        · rw [y2 ((p_10 hn hE.2.1.2).mpr e)]; exact (if_pos e).symm
        · rw [y3 (fun e2 => e ((p_10 hn hE.2.1.2).mp e2))]; exact (if_neg e).symm
      subst hpc
      have hT0 : Lt (pN U len q cnt) y tn tz ∧ pN U len q cnt ≤ G 6 7 := by
        obtain ⟨j0, hj0⟩ : ∃ j0, j2 = j0 + 1 := ⟨j2 - 1, by omega⟩
        rw [hj0] at hT1
        exact hT1.1.2
      rw [e1, e2]
      refine Rs_00 (decl_ok hn hS hQ hG (fun _ e => ?_) h (fun _ => ⟨tn, y1, hT0.1⟩)) (fun a b x1 x2 hab => ?_) (fun f z a hF => fc_L (by omega) hF) (fun f z b hM => fm_L (by omega) hM)
      · have := hT0.2
        rw [show pN U len q cnt = cnt 7 + 1 from if_pos e] at this
        omega
      obtain ⟨cnt1, N1, q1, nd1, cd1, us1, es1, na1, nb1, l1, l2, hDR⟩ := hab
      have ebt : b = tn := by rw [x2] at y1; exact Option.some.inj y1
      refine ih cnt1 N1 q1 nd1 cd1 us1 es1 na1 nb1 a b (i + 1) j j2 (by omega) (by omega) (by omega) (by omega) hDR ?_
      rw [l2, ebt]; exact hT1
end ZRN
