/-! declarations, both readers: one, whichever -/
section ZRL
variable {U : Nat → Nat} {len x y n K np bl ub q dp nd cd us es na nb q2 p m N c : Nat} {s0 t0 tz s t s2 t2 s3 t3 sB tB : zσ} {G G2 : Nat → Nat → Nat} {cnt cnt2 : Nat → Nat}
/-- the class's step at a declaration -/
def dC (n : Nat) (s : zσ) : Option zσ := if (s.1 1001 4) - (128 : Int32) < (0 : Int32) then (yb1 (f32 n (2 : Int32) s) fun _ u => some u) else if (8 : Int32) < (s.1 1001 4) - (128 : Int32) then (yb1 (f32 n (2 : Int32) s) fun _ u => some u) else if (s.1 1001 4) - (128 : Int32) = (7 : Int32) then f33 n s else if (s.1 1001 4) - (128 : Int32) = (8 : Int32) then f66 n s else f68 n ((s.1 1001 4) - (128 : Int32)) s
theorem e_69 {r : Int32 → zσ → Option (Int32 × zσ)} {j : Nat} {x2 x3 : Int32} : f21_69 n r (j + 1) x2 x3 s = if x3 < (4000 : Int32) then (if (s.1 1001 4) = (3 : Int32) then r (x2 + 1) s else if (s.1 1001 4) = (4 : Int32) then r (x2 + 1) s else yb0 (dC n s) fun u => f21_69 n r j x2 (x3 + 1) u) else r (x2 + 1) s := by
  rw [f21_69]
  unfold f21_172 f21_123 f21_166 dC
  simp only [zlet, as_0i, as_01, as_0s]
/-- how many procs there are after this declaration -/
def pN (U : Nat → Nat) (len q : Nat) (cnt : Nat → Nat) : Nat := if tkKind U len q = nI 135 then cnt 7 + 1 else cnt 7
theorem decl_ok (hn : 5000 ≤ n) (hS : S0 U len x y s0 t0) (hQ : HQ n U len x y s0 t0 K tz G 0) (hG : HG K y tz G) (hp7 : K = 1 → tkKind U len q = nI 135 → cnt 7 < G 6 7) (h : DR U len x y s0 t0 K (cnt 7) tz G cnt N q nd cd us es na nb s t) (H : Hb (fun u => u) K (pN U len q cnt) y tz (f168 n t)) : Rs (FC len x s0) (FM len y t0) (ZB K y tz) (fun a b => ∃ cnt2 N2 q2 nd2 cd2 us2 es2 na2 nb2, q + 1 ≤ q2 ∧ cnt2 7 = pN U len q cnt ∧ DR U len x y s0 t0 K (cnt2 7) tz G cnt2 N2 q2 nd2 cd2 us2 es2 na2 nb2 a b) (dC n s) (f168 n t) := by
  have hx := hS.1
  have hy := hS.2.1
  have hE := h.1.1
  obtain ⟨hq, hU, -⟩ := ER_q hE
  have hk := ER_k hE
  by_cases hd : ∃ c, c < 9 ∧ tkKind U len q = nI (128 + c)
  · obtain ⟨c, hc, ek⟩ := hd
    have ev : s.1 1001 4 - (128 : Int32) = nI c := by
      rw [hk, ek, show (128 : Int32) = nI 128 from rfl, nsubN (by omega), show 128 + c - 128 = c by omega]
    have eC : dC n s = if nI c = (7 : Int32) then f33 n s else if nI c = (8 : Int32) then f66 n s else f68 n (nI c) s := by
      unfold dC
      rw [ev, if_neg (show ¬ nI c < (0 : Int32) from nI_nlt (b := 0) (by omega) (by omega)), if_neg (show ¬ (8 : Int32) < nI c from nI_nlt (a := 8) (by omega) (by omega))]
    rw [eC]
    by_cases c7 : c = 7
    · subst c7
      have e135 : pN U len q cnt = cnt 7 + 1 := if_pos ek
      rw [if_pos (show nI 7 = (7 : Int32) from rfl)]
      rw [e135] at H
      refine Rs_w (proc_ok hn hS hQ hG (fun hK => hp7 hK ek) h ek H) (fun a b _ _ hab => ?_)
      obtain ⟨q2, nd2, cd2, us2, es2, na2, nb2, l1, hDR⟩ := hab
      exact ⟨uN cnt 7 (cnt 7 + 1), N + 1, q2, nd2, cd2, us2, es2, na2, nb2, l1, e135.symm ▸ rfl, hDR⟩
    · have e135 : pN U len q cnt = cnt 7 := if_neg (fun e => by have := (nIe (u := 128 + c) (k := 135) (by omega) (by decide)).mp (ek.symm.trans e); omega)
      have c7' : ¬ nI c = (7 : Int32) := fun e => c7 ((nIe (u := c) (k := 7) (by omega) (by decide)).mp e)
      rw [if_neg c7']
      rw [e135] at H
      by_cases c8 : c = 8
      · subst c8
        rw [if_pos (show nI 8 = (8 : Int32) from rfl)]
        refine Rs_w (task_ok hn hS hQ hG h ek H) (fun a b _ _ hab => ?_)
        obtain ⟨q2, nd2, cd2, us2, es2, na2, nb2, l1, hDR⟩ := hab
        exact ⟨uN cnt 8 (cnt 8 + 1), N + 1, q2, nd2, cd2, us2, es2, na2, nb2, l1, e135.symm ▸ rfl, hDR⟩
      · have c8' : ¬ nI c = (8 : Int32) := fun e => c8 ((nIe (u := c) (k := 8) (by omega) (by decide)).mp e)
        rw [if_neg c8']
        refine Rs_w (thing_ok hn hS hQ.2.2.2.2.2.1 h (by omega) ek H) (fun a b _ _ hab => ?_)
        obtain ⟨q2, l1, hDR⟩ := hab
        have e7 : uN cnt c (cnt c + 1) 7 = cnt 7 := if_neg (by omega)
        exact ⟨uN cnt c (cnt c + 1), N + 1, q2, nd, cd, us, es, na, nb, l1, e7.trans e135.symm, e7.symm ▸ hDR⟩
  · have hno : ∀ c, c < 9 → ¬ tkKind U len q = nI (128 + c) := fun c hc e => hd ⟨c, hc, e⟩
    obtain ⟨s2, x1, g1⟩ := er_ref (n := n) (f := 2) hS hE
    obtain ⟨t2, x2, g2⟩ := er_cant (n := n) hS hE
    refine Rs_B (f := zft U len q 2) (z := q) ⟨s2, ?_, g1⟩ ⟨t2, ?_, g2⟩
    · have e32 : (yb1 (f32 n (2 : Int32) s) fun _ u => some u) = some s2 := by rw [show f32 n 2 s = _ from x1]; rfl
      have hkk : ∃ k, k < 300 ∧ s.1 1001 4 = nI k ∧ (k < 128 ∨ 136 < k) := by
        rw [hk]
        rcases tk_cases hU hq with ⟨-, e, -⟩ | ⟨-, e, -⟩ | ⟨-, -, ⟨w, hw, -, e⟩, -⟩ | ⟨-, -, -, e, -⟩ | ⟨-, -, -, e, -⟩ | ⟨hlt, -, -, hs, e, -⟩
        · exact ⟨3, by omega, e, by omega⟩
        · exact ⟨0, by omega, e, by omega⟩
        · refine ⟨128 + w, by omega, e, ?_⟩
          have : ¬ w < 9 := fun hw9 => hno w hw9 e
          omega
        · exact ⟨1, by omega, e, by omega⟩
        · exact ⟨2, by omega, e, by omega⟩
        · have := zsg_b hs (hU q hlt)
          exact ⟨U q, by omega, e, by omega⟩
      obtain ⟨k, k1, k2, k3⟩ := hkk
      unfold dC
      rw [k2, e32]
      by_cases hlt : k < 128
      · have ev : nI k - (128 : Int32) < 0 := by
          have : ∀ j : Fin 128, nI j.1 - (128 : Int32) < 0 := by decide +kernel
          exact this ⟨k, hlt⟩
        rw [if_pos ev]
      · have ev : nI k - (128 : Int32) = nI (k - 128) := by rw [show (128 : Int32) = nI 128 from rfl, nsubN (by omega)]
        rw [ev, if_neg (show ¬ nI (k - 128) < (0 : Int32) from nI_nlt (b := 0) (by omega) (by omega)), if_pos (show (8 : Int32) < nI (k - 128) from nI_lt (a := 8) (by omega) (by omega))]
    · unfold f168
      rw [ER_y hS hE, grd (gck12 hy), (m_169 hn hE).2 hno, yb1_s, if_pos rfl, x2]; rfl
end ZRL
