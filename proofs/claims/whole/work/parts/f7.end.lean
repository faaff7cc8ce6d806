/-! the end of the first pass -/
section ZRR
variable {U : Nat → Nat} {len x y n K np q nd cd us es na nb N : Nat} {s0 t0 tz s t : zσ} {G G2 : Nat → Nat → Nat} {cnt : Nat → Nat}
theorem DR_b (h : DR U len x y s0 t0 K np tz G cnt N q nd cd us es na nb s t) : us ≤ 1200 ∧ cd ≤ 400 ∧ es ≤ 400 ∧ na ≤ 200 ∧ nb ≤ 666 ∧ nd ≤ 400 := by
  obtain ⟨hR, -⟩ := h
  obtain ⟨hq, -, hl⟩ := ER_q hR.1
  have h1 := hR.1.2.2.2.2.1.2.2
  have h2 := hR.1.2.2.2.2.2.1.2.2
  have h3 := hR.1.2.2.2.2.2.2.1.2
  have h4 := hR.2.1.2.2
  have h5 := hR.2.2.1.2.2
  have h6 := hR.2.2.2.1.2
  omega
theorem Lt_self (h : DR U len x y s0 t0 K np tz G cnt N q nd cd us es na nb s t) {np2 : Nat} : Lt np2 y t t := by
  obtain ⟨b1, b2, b3, b4, b5, b6⟩ := DR_b h
  obtain ⟨hR, -⟩ := h
  exact ⟨hR.1.2.1.2.2, ⟨us, us, hR.1.2.2.2.2.2.2.1.1, hR.1.2.2.2.2.2.2.1.1, Nat.le_refl _, by omega, fun _ _ => ⟨rfl, rfl, rfl, rfl⟩⟩, ⟨cd, cd, hR.1.2.2.2.2.2.1.2.1, hR.1.2.2.2.2.2.1.2.1, Nat.le_refl _, by omega, fun _ _ => ⟨rfl, rfl⟩⟩, ⟨es, es, hR.2.2.2.1.1, hR.2.2.2.1.1, Nat.le_refl _, by omega, fun _ _ => ⟨rfl, rfl⟩⟩, ⟨na, na, hR.2.1.2.1, hR.2.1.2.1, Nat.le_refl _, b4⟩, ⟨nb, nb, hR.2.2.1.2.1, hR.2.2.1.2.1, Nat.le_refl _, by omega⟩, fun _ _ => ⟨rfl, fun _ _ => rfl⟩⟩
theorem nm_end (h : DT x y 0 cnt N s t) (hG : ∀ k, k < 9 → G 6 k = cnt k) : nmT G x y s t := by
  have hN := DT_N h
  obtain ⟨h1, h2, h3, h4⟩ := h
  obtain ⟨q1, q2, q3, q4⟩ := h4 rfl
  refine ⟨fun k hk => ⟨by rw [hG k hk]; exact q1 k hk, by rw [hG k hk]; exact (h1 k hk).2.2⟩, N, by omega, h3.1, fun k hk => ?_, fun c i hc hi => q3 c i hc (by rw [← hG c hc]; exact hi), q4⟩
  obtain ⟨c, i, p1, p2, p3⟩ := q2 k hk
  exact ⟨c, i, p1, by rw [hG c p1]; exact p2, p3⟩
/-- the ghosts that the second pass takes from the end of the first -/
def Gzp (y : Nat) (tz : zσ) (cnt : Nat → Nat) : Nat → Nat → Nat := fun f k => if f = 0 then (if k = 0 then nx (tz.1 y 16) else nx (tz.1 y 13)) else if f = 6 then cnt k else if f = 12 then nx (tz.1 (y + 11) k) else if f = 13 then nx (tz.1 (y + 27) k) else 0
theorem Gz_HG (h : DR U len x y s0 t0 0 np tz G cnt N q nd cd us es na nb s t) : HG K y t (Gzp y t cnt) := fun _ => by
  obtain ⟨b1, b2, b3, b4, b5, b6⟩ := DR_b h
  have e1 : Gzp y t cnt 0 0 = na := by
    show nx (t.1 y 16) = na
    rw [h.1.2.1.2.1, nx_nI (by omega)]
  have e2 : Gzp y t cnt 0 1 = nb := by
    show nx (t.1 y 13) = nb
    rw [h.1.2.2.1.2.1, nx_nI (by omega)]
  refine ⟨by rw [e1]; exact h.1.2.1.2.1, by rw [e2]; exact h.1.2.2.1.2.1, by omega, by omega, fun p hp => ?_⟩
  obtain ⟨-, m, m1, -, m3⟩ := h.2.2.2.1.2.2.2 p hp
  have e3 : Gzp y t cnt 12 p = m := by
    show nx (t.1 (y + 11) p) = m
    rw [m3, nx_nI (by omega)]
  exact ⟨by rw [e3]; exact m3, by omega⟩
theorem Gz_18 (h : DR U len x y s0 t0 0 np tz G cnt N q nd cd us es na nb s t) : ∀ p, p < Gzp y t cnt 6 7 → s.1 (x + 18) p = t.1 (y + 11) p := fun p hp => by
  obtain ⟨-, m, m1, m2, m3⟩ := h.2.2.2.1.2.2.2 p hp
  rw [m2, m3]
end ZRR
