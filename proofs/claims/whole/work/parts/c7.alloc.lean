/-! a statement's word; its fields are laid out -/
section ZQF
/-- the reference's number of a statement that begins with word w, else 0 -/
def zac (w : Nat) : Nat := [0, 0, 0, 0, 0, 0, 0, 0, 0, 0, 0, 0, 0, 0, 0, 0, 0, 0, 0, 0, 0, 3, 4, 5, 6, 18, 7, 8, 9, 28, 22, 10, 11, 12, 13, 14, 15, 23, 24, 16, 17, 19, 20, 21, 25, 26, 27].getD w 0
def actF (X : Int64) : Int32 := if X = zofv 19 then 3 else if X = zofv 20 then 4 else if X = zofv 21 then 5 else if X = zofv 22 then 6 else if X = zofv 23 then 7 else if X = zofv 24 then 8 else if X = zofv 25 then 9 else if X = zofv 26 then 10 else if X = zofv 27 then 11 else if X = zofv 28 then 12 else if X = zofv 29 then 13 else if X = zofv 30 then 14 else if X = zofv 31 then 15 else if X = zofv 32 then 16 else if X = zofv 33 then 17 else if X = zofv 34 then 18 else if X = zofv 35 then 19 else if X = zofv 36 then 20 else if X = zofv 37 then 21 else if X = zofv 38 then 22 else if X = zofv 39 then 23 else if X = zofv 40 then 24 else if X = zofv 41 then 25 else if X = zofv 42 then 26 else if X = zofv 43 then 27 else if X = zofv 44 then 28 else 0
theorem actF_w : ∀ w : Fin 47, actF (zWd w.1) = nI (zac w.1) := by decide +kernel
theorem zac_k : ∀ w : Fin 47, 21 ≤ w.1 → zkd (zac w.1) = 128 + w.1 ∧ zac w.1 ≠ 0 ∧ zac w.1 < 29 ∧ 3 ≤ zac w.1 := by decide +kernel
theorem zac_0 : ∀ w : Fin 47, w.1 < 21 → zac w.1 = 0 := by decide +kernel
theorem of_n : ∀ k : Fin 51, 19 ≤ k.1 → k.1 ≤ 44 → ∃ w : Fin 47, zofv k.1 = zWd w.1 := by decide +kernel
theorem ite_sp {c : Prop} {i : Decidable c} {a b : Int32} {t : zσ} : (if c then some (a, t) else some (b, t)) = some ((if c then a else b), t) := by split <;> rfl
theorem m_186 {n : Nat} {X : Int64} (hn : 5000 ≤ n) (t : zσ) : f186 n X t = some (actF X, t) := by
  have h : ∀ k, k < 51 → f171 n k t = some (zofv k, t) := fun k hk => of_ok hk hn t
  unfold f186 f187 actF
  simp only [h 19 (by omega), h 20 (by omega), h 21 (by omega), h 22 (by omega), h 23 (by omega), h 24 (by omega), h 25 (by omega), h 26 (by omega), h 27 (by omega), h 28 (by omega), h 29 (by omega), h 30 (by omega), h 31 (by omega), h 32 (by omega), h 33 (by omega), h 34 (by omega), h 35 (by omega), h 36 (by omega), h 37 (by omega), h 38 (by omega), h 39 (by omega), h 40 (by omega), h 41 (by omega), h 42 (by omega), h 43 (by omega), h 44 (by omega), yb1_s, ite_sp]
theorem actF_n {X : Int64} (h : ¬ zres X) : actF X = 0 := by
  have hk : ∀ k, 19 ≤ k → k ≤ 44 → ¬ X = zofv k := fun k h1 h2 e => by
    obtain ⟨w, hw⟩ := of_n ⟨k, by omega⟩ h1 h2
    exact h ⟨w.1, w.2, by rw [← hw, e]⟩
  unfold actF
  simp only [if_neg (hk 19 (by omega) (by omega)), if_neg (hk 20 (by omega) (by omega)), if_neg (hk 21 (by omega) (by omega)), if_neg (hk 22 (by omega) (by omega)), if_neg (hk 23 (by omega) (by omega)), if_neg (hk 24 (by omega) (by omega)), if_neg (hk 25 (by omega) (by omega)), if_neg (hk 26 (by omega) (by omega)), if_neg (hk 27 (by omega) (by omega)), if_neg (hk 28 (by omega) (by omega)), if_neg (hk 29 (by omega) (by omega)), if_neg (hk 30 (by omega) (by omega)), if_neg (hk 31 (by omega) (by omega)), if_neg (hk 32 (by omega) (by omega)), if_neg (hk 33 (by omega) (by omega)), if_neg (hk 34 (by omega) (by omega)), if_neg (hk 35 (by omega) (by omega)), if_neg (hk 36 (by omega) (by omega)), if_neg (hk 37 (by omega) (by omega)), if_neg (hk 38 (by omega) (by omega)), if_neg (hk 39 (by omega) (by omega)), if_neg (hk 40 (by omega) (by omega)), if_neg (hk 41 (by omega) (by omega)), if_neg (hk 42 (by omega) (by omega)), if_neg (hk 43 (by omega) (by omega)), if_neg (hk 44 (by omega) (by omega))]
variable {U : Nat → Nat} {len x y n K np bl ub q dp nd cd us es na nb q2 dp2 nd2 cd2 us2 r nb0 cd0 mE na2 nb2 : Nat} {s0 t0 tz s t s2 t2 s3 t3 sS tS : zσ} {G G2 G3 : Nat → Nat → Nat} {c m L E : Nat → Int32} {cs : Nat → Nat}
/-- how a schedule goes: at, after, all, when -/
theorem m_185 (hn : 5000 ≤ n) (h : ER U len x y s0 t0 K np tz G bl ub q dp nd cd us s t) : (∀ hw, 1 ≤ hw → hw ≤ 4 → tkKind U len q = nI (144 + hw) → f185 n t = some (nI hw, t)) ∧ ((∀ hw, 1 ≤ hw → hw ≤ 4 → ¬ tkKind U len q = nI (144 + hw)) → f185 n t = some (0, t)) := by
  have hM := h.2.1.2
  have w15 : f170 n 15 t = some (zone (decide (tkKind U len q = nI (144 + 1))), t) := tm_word (w := 17) hn hM.1 (by decide) (by decide) (by decide +kernel)
  have w16 : f170 n 16 t = some (zone (decide (tkKind U len q = nI (144 + 2))), t) := tm_word (w := 18) hn hM.1 (by decide) (by decide) (by decide +kernel)
  have w17 : f170 n 17 t = some (zone (decide (tkKind U len q = nI (144 + 3))), t) := tm_word (w := 19) hn hM.1 (by decide) (by decide) (by decide +kernel)
  have w18 : f170 n 18 t = some (zone (decide (tkKind U len q = nI (144 + 4))), t) := tm_word (w := 20) hn hM.1 (by decide) (by decide) (by decide +kernel)
  unfold f185
  rw [w15, yb1_s]
  constructor
  · intro hw h1 h2 e
    have : hw = 1 ∨ hw = 2 ∨ hw = 3 ∨ hw = 4 := by omega
    rcases this with rfl | rfl | rfl | rfl
    · rw [zone_1 e, if_neg n10]; rfl
    · rw [zone_0 (by rw [e]; decide), if_pos rfl, w16, yb1_s, zone_1 e, if_neg n10]; rfl
    · rw [zone_0 (by rw [e]; decide), if_pos rfl, w16, yb1_s, zone_0 (by rw [e]; decide), if_pos rfl, w17, yb1_s, zone_1 e, if_neg n10]; rfl
    · rw [zone_0 (by rw [e]; decide), if_pos rfl, w16, yb1_s, zone_0 (by rw [e]; decide), if_pos rfl, w17, yb1_s, zone_0 (by rw [e]; decide), if_pos rfl, w18, yb1_s, zone_1 e, if_neg n10]; rfl
  · intro hno
    rw [zone_0 (hno 1 (by omega) (by omega)), if_pos rfl, w16, yb1_s, zone_0 (hno 2 (by omega) (by omega)), if_pos rfl, w17, yb1_s, zone_0 (hno 3 (by omega) (by omega)), if_pos rfl, w18, yb1_s, zone_0 (hno 4 (by omega) (by omega)), if_pos rfl]
/-- the reference's fields of a new statement -/
def nsM (y na : Nat) (k : Int32) (t : zσ) : zσ := sI (sI (sI (sI (sI (sI (sI (sI (sI t y 16 (nI (na + 1))) (y + 16) na (-1)) (y + 17) na (-1)) (y + 18) na (-1)) (y + 19) na 0) (y + 20) na 0) (y + 23) na (-1)) (y + 24) na (-1)) (y + 15) na k
def nsC (x na : Nat) (k bl cd : Int32) (s : zσ) : zσ := sI (sI (sI (sI (sI (sI (sI (sI s (x + 19) 9 (nI (na + 1))) (x + 20) na k) (x + 21) na (-1)) (x + 22) na (-1)) (x + 23) na cd) (x + 24) na cd) (x + 25) na (-1)) (x + 26) na bl
theorem f47_v {k : Int32} (h : SR U len x y s0 t0 K np tz G bl ub q dp nd cd us es na nb s t) : (na < 200 → f47 n (x + 19) k (nI bl) s = some (nI na, nsC x na k (nI bl) (nI cd) s)) ∧ (na = 200 → f47 n (x + 19) k (nI bl) s = some (-1, s)) := by
  obtain ⟨a1, a2, a3⟩ := h.2.1
  have k1 := h.1.2.2.2.2.2.1.1
  unfold f47
  rw [a1]
  constructor
  · intro hlt
    have hin : zin? (nI na) 200 = true := zin_nI hlt (by decide)
    have g1 : (sI (sI (sI (sI s (x + 19) 9 (nI (na + 1))) (x + 19 + 1) na k) (x + 19 + 2) na (-1)) (x + 19 + 3) na (-1)).1 (x + 19) 11 = nI cd := by rw [hIo (by omega), hIo (by omega), hIo (by omega), hIk (by decide)]; exact k1
    have g2 : (sI (sI (sI (sI (sI s (x + 19) 9 (nI (na + 1))) (x + 19 + 1) na k) (x + 19 + 2) na (-1)) (x + 19 + 3) na (-1)) (x + 19 + 4) na (nI cd)).1 (x + 19) 11 = nI cd := by rw [hIo (by omega)]; exact g1
    rw [if_pos (show nI na < 200 from nI_lt (b := 200) hlt (by decide))]
    simp only [zlet, if_pos hin, nx_nI (show na < 2 ^ 31 by omega), nI_1, g1, g2]
    rfl
  · intro e
    rw [if_neg (show ¬ nI na < 200 from nI_nlt (b := 200) (by omega) (by omega))]
theorem alloc_ok {k : Int32} {k3 : Int32} (hS : S0 U len x y s0 t0) (h : SR U len x y s0 t0 K np tz G bl (4 * na) q dp nd cd us es na nb s t) (hlt : na < 200) (hl : K = 1 → Lt np y (nsM y na k3 t) tz) : ST U len x y s0 t0 K np tz G bl na nb cd s t (4 * na) q dp nd cd us es nb (c0F k cd bl) (m0F k3) (fun j => t.1 (y + 21) (4 * na + j)) (fun j => t.1 (y + 22) (4 * na + j)) 0 (fun _ => cd) (nsC x na k (nI bl) (nI cd) s) (nsM y na k3 t) := by
  have hx := hS.1
  have hy := hS.2.1
  have gC : ∀ a j, a ≠ x + 19 → ¬ (x + 20 ≤ a ∧ a ≤ x + 26 ∧ j = na) → (nsC x na k (nI bl) (nI cd) s).1 a j = s.1 a j := fun a j h1 h2 => by
    unfold nsC
    rw [hIx (by omega), hIx (by omega), hIx (by omega), hIx (by omega), hIx (by omega), hIx (by omega), hIx (by omega), hIx (by omega)]
  have gC9 : ∀ j, j ≠ 9 → (nsC x na k (nI bl) (nI cd) s).1 (x + 19) j = s.1 (x + 19) j := fun j h1 => by
    unfold nsC
    rw [hIo (by omega), hIo (by omega), hIo (by omega), hIo (by omega), hIo (by omega), hIo (by omega), hIo (by omega), hIk h1]
  have gM : ∀ a j, a ≠ y → ¬ (y + 15 ≤ a ∧ a ≤ y + 24 ∧ a ≠ y + 21 ∧ a ≠ y + 22 ∧ j = na) → (nsM y na k3 t).1 a j = t.1 a j := fun a j h1 h2 => by
    unfold nsM
    rw [hIx (by omega), hIx (by omega), hIx (by omega), hIx (by omega), hIx (by omega), hIx (by omega), hIx (by omega), hIx (by omega), hIx (by omega)]
  have gM16 : ∀ j, j ≠ 16 → (nsM y na k3 t).1 y j = t.1 y j := fun j h1 => by
    unfold nsM
    rw [hIo (by omega), hIo (by omega), hIo (by omega), hIo (by omega), hIo (by omega), hIo (by omega), hIo (by omega), hIo (by omega), hIk h1]
  obtain ⟨hE, ⟨a1, a2, a3⟩, ⟨b1, b2, b3⟩, ⟨c1, c2⟩, d1, e1, f1⟩ := id h
  obtain ⟨⟨p1, p1'⟩, ⟨p2, p2'⟩, p3, ⟨q1, q2, q3⟩, ⟨n1, n2, n3⟩, ⟨k1, k2, k3'⟩, ⟨u1, u2⟩, a8⟩ := id hE
  have hBC : BC len x s0 (nsC x na k (nI bl) (nI cd) s) := by
    unfold nsC
    exact BC_I hx (by omega) (by omega) (BC_I hx (by omega) (by omega) (BC_I hx (by omega) (by omega) (BC_I hx (by omega) (by omega) (BC_I hx (by omega) (by omega) (BC_I hx (by omega) (by omega) (BC_I hx (by omega) (by omega) (BC_I hx (by omega) (by omega) p1)))))))
  have hCG : CG U len q (nsC x na k (nI bl) (nI cd) s) := by
    unfold nsC
    exact CG_I (by omega) (by omega) (by omega) (CG_I (by omega) (by omega) (by omega) (CG_I (by omega) (by omega) (by omega) (CG_I (by omega) (by omega) (by omega) (CG_I (by omega) (by omega) (by omega) (CG_I (by omega) (by omega) (by omega) (CG_I (by omega) (by omega) (by omega) (CG_I (by omega) (by omega) (by omega) p1')))))))
  have hBM : GFm y t0 (nsM y na k3 t) := by
    unfold nsM
    exact GFm_I (by omega) hy (GFm_I (by omega) hy (GFm_I (by omega) hy (GFm_I (by omega) hy (GFm_I (by omega) hy (GFm_I (by omega) hy (GFm_I (by omega) hy (GFm_I (by omega) hy (GFm_I (by omega) hy p2.1))))))))
  have hMG : MG U len q (nsM y na k3 t) := by
    unfold nsM
    exact MG_I (by omega) (by omega) (MG_I (by omega) (by omega) (MG_I (by omega) (by omega) (MG_I (by omega) (by omega) (MG_I (by omega) (by omega) (MG_I (by omega) (by omega) (MG_I (by omega) (by omega) (MG_I (by omega) (by omega) (MG_I (by omega) (by omega) p2'))))))))
  have h4 : ∀ j, (nsC x na k (nI bl) (nI cd) s).1 1004 j = s.1 1004 j := fun j => gC 1004 j (by omega) (by omega)
  have h32 : ∀ j, (nsM y na k3 t).1 1132 j = t.1 1132 j := fun j => gM 1132 j (by omega) (by omega)
  refine ⟨⟨⟨⟨hBC, hCG⟩, ⟨⟨hBM, ?_⟩, hMG⟩, ?_, ⟨?_, ?_, q3⟩, ⟨?_, ?_, n3⟩, ⟨?_, ?_, k3'⟩, ⟨?_, u2⟩, fun hK => ⟨hl hK, (a8 hK).2.1, ?_, (a8 hK).2.2.2.1, ?_⟩⟩, ⟨?_, ?_, by omega⟩, ⟨?_, ?_, b3⟩, ⟨?_, c2⟩, ?_, MI_fr e1 (h4 12) (fun u _ => gM _ _ (by omega) (by omega)) (fun u a b => by omega) (Nat.le_refl _), fun hK p hp => ?_⟩, ⟨fun j hj => ?_, fun j hj j6 j7 => ?_, fun j hj => ⟨gM _ _ (by omega) (by omega), gM _ _ (by omega) (by omega)⟩⟩, ⟨?_, ?_, Nat.le_refl _, Nat.le_refl _⟩, fun hK => ⟨rfl, rfl, fun j hj => by omega⟩⟩
  · rw [h32]; exact p2.2
  · rw [h4]; exact p3
  · rw [h4]; exact q1
  · rw [h32]; exact q2
  · rw [gC9 10 (by decide)]; exact n1
  · rw [gM16 27 (by decide)]; exact n2
  · rw [gC9 11 (by decide)]; exact k1
  · rw [gM16 31 (by decide)]; exact k2
  · rw [gM16 34 (by decide)]; exact u1
  · rw [← (a8 hK).2.2.1]; funext j; exact gC _ _ (by omega) (by omega)
  · rw [h4, h32]; exact (a8 hK).2.2.2.2
  · unfold nsC
    rw [hIo (by omega), hIo (by omega), hIo (by omega), hIo (by omega), hIo (by omega), hIo (by omega), hIo (by omega), hIe]
  · unfold nsM
    rw [hIo (by omega), hIo (by omega), hIo (by omega), hIo (by omega), hIo (by omega), hIo (by omega), hIo (by omega), hIo (by omega), hIe]
  · rw [gC _ _ (by omega) (by omega)]; exact b1
  · rw [gM16 13 (by decide)]; exact b2
  · rw [gM16 28 (by decide)]; exact c1
  · rw [h4, h32]; exact d1
  · rw [gC _ _ (by omega) (by omega)]; exact f1 hK p hp
  · have : j = 0 ∨ j = 1 ∨ j = 2 ∨ j = 3 ∨ j = 4 ∨ j = 5 ∨ j = 6 := by omega
    unfold nsC
    rcases this with rfl | rfl | rfl | rfl | rfl | rfl | rfl
    · rw [hIo (by omega), hIo (by omega), hIo (by omega), hIo (by omega), hIo (by omega), hIo (by omega)]; exact hIe
    · rw [hIo (by omega), hIo (by omega), hIo (by omega), hIo (by omega), hIo (by omega)]; exact hIe
    · rw [hIo (by omega), hIo (by omega), hIo (by omega), hIo (by omega)]; exact hIe
    · rw [hIo (by omega), hIo (by omega), hIo (by omega)]; exact hIe
    · rw [hIo (by omega), hIo (by omega)]; exact hIe
    · rw [hIo (by omega)]; exact hIe
    · exact hIe
  · have : j = 0 ∨ j = 1 ∨ j = 2 ∨ j = 3 ∨ j = 4 ∨ j = 5 ∨ j = 8 ∨ j = 9 := by omega
    unfold nsM
    rcases this with rfl | rfl | rfl | rfl | rfl | rfl | rfl | rfl
    · exact hIe
    · rw [hIo (by omega), hIo (by omega), hIo (by omega), hIo (by omega), hIo (by omega), hIo (by omega), hIo (by omega)]; exact hIe
    · rw [hIo (by omega), hIo (by omega), hIo (by omega), hIo (by omega), hIo (by omega), hIo (by omega)]; exact hIe
    · rw [hIo (by omega), hIo (by omega), hIo (by omega), hIo (by omega), hIo (by omega)]; exact hIe
    · rw [hIo (by omega), hIo (by omega), hIo (by omega), hIo (by omega)]; exact hIe
    · rw [hIo (by omega), hIo (by omega), hIo (by omega)]; exact hIe
    · rw [hIo (by omega), hIo (by omega)]; exact hIe
    · rw [hIo (by omega)]; exact hIe
  · refine ⟨fun a c1 c2 c3 => ?_, fun _ _ => rfl, rfl, fun j _ _ _ _ => h4 j, fun e => by rw [← h4]; exact e, fun a i c1 c2 c3 => gC _ _ (by omega) (by omega), fun a i c1 c2 c3 => gC _ _ (by omega) (by omega), fun _ p _ => ⟨gC _ _ (by omega) (by omega), gC _ _ (by omega) (by omega)⟩⟩
    funext j; exact gC _ _ (by omega) (by omega)
  · refine ⟨fun a c1 c2 c3 => ?_, fun _ _ _ => rfl, rfl, fun j _ _ _ _ _ _ _ _ => h32 j, fun j _ c1 _ _ _ _ => gM16 j c1, fun a i c1 c2 => gM _ _ (by omega) (by omega), fun a i c1 c2 => gM _ _ (by omega) (by omega), fun b _ => gM _ _ (by omega) (by omega), fun b _ => gM _ _ (by omega) (by omega)⟩
    funext j; exact gM _ _ c2 (by omega)
end ZQF
