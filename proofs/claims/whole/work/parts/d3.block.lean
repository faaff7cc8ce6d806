/-! blocks, both readers: reactions -/
section ZQL
variable {U : Nat → Nat} {len x y n K np bl ub q dp nd cd us es na nb q2 dp2 nd2 cd2 us2 r nb0 cd0 mE na2 nb2 na0 : Nat} {s0 t0 tz s t s2 t2 s3 t3 sS tS : zσ} {G G2 G3 : Nat → Nat → Nat} {gc : Int32 → Int32 → zσ → Option (Int32 × zσ)} {gm : zσ → Option (Int32 × zσ)} {l : List Nat} {kd w0 : Int32}
theorem nd_len : ∀ (k : Nat) (l : List Nat), l.Nodup → (∀ a, a ∈ l → a < k) → l.length ≤ k
  | 0, l, _, h => by
    cases l with
    | nil => exact Nat.le_refl _
    | cons a l => have := h a (List.mem_cons_self); omega
  | k + 1, l, hn, h => by
    by_cases hk : k ∈ l
    · have h1 := nd_len k (l.erase k) (hn.erase k) (fun a ha => by
        have h2 := (List.Nodup.mem_erase_iff hn).mp ha
        have := h a h2.2
        have := h2.1
        omega)
      rw [List.length_erase_of_mem hk] at h1
      omega
    · have := nd_len k l hn (fun a ha => by
        have := h a ha
        have : a ≠ k := fun e => hk (e ▸ ha)
        omega)
      omega
theorem cR_f (h : ∀ r, r ∈ l → s2.1 (x + 34) r = s.1 (x + 34) r) {v : Int32} (hc : cR x s v l) : cR x s2 v l := by
  induction l generalizing v with
  | nil => exact hc
  | cons a l ih => exact ⟨hc.1, hc.2.1, by rw [h a (List.mem_cons_self)]; exact ih (fun r hr => h r (List.mem_cons_of_mem _ hr)) hc.2.2⟩
theorem find_f {w : Nat} (h : ∀ r, r ∈ l → s2.1 (x + 35) r = s.1 (x + 35) r) : l.find? (fun r => decide (s2.1 (x + 35) r = nI w)) = l.find? (fun r => decide (s.1 (x + 35) r = nI w)) := by
  induction l with
  | nil => rfl
  | cons a l ih =>
    have ih := ih (fun r hr => h r (List.mem_cons_of_mem _ hr))
    simp only [List.find?_cons, h a (List.mem_cons_self), ih]
theorem cr_L {w : Nat} : ∀ (l : List Nat) (v : Int32) (it j : Nat), cR x s v l → l.length < j → it + l.length < 700 → f44_10 n j (x + 29) (nI w) v (nI it) s = some (match l.find? (fun r => decide (s.1 (x + 35) r = nI w)) with | none => -1 | some r => nI r, s) := by
  intro l
  induction l with
  | nil =>
    intro v it j h hj hit
    obtain ⟨j, rfl⟩ : ∃ j0, j = j0 + 1 := ⟨j - 1, by omega⟩
    have e : v = -1 := h
    simp only [List.length_nil] at hit
    rw [f44_10, if_pos (show nI it < 700 from (nltN (b := 700) (by omega) (by decide)).mpr (by omega)), e, if_pos rfl]
    rfl
  | cons r l ih =>
    intro v it j h hj hit
    obtain ⟨j, rfl⟩ : ∃ j0, j = j0 + 1 := ⟨j - 1, by omega⟩
    obtain ⟨e, hr, h2⟩ := h
    simp only [List.length_cons] at hj hit
    have z7 : zin? (nI r) 700 = true := (zinN (by omega)).mpr hr
    have em : ¬ nI r = -1 := fun q => (neqM (show r < 2 ^ 31 by omega)).mp q
    rw [f44_10, if_pos (show nI it < 700 from (nltN (b := 700) (by omega) (by decide)).mpr (by omega)), e, if_neg em, if_pos z7, nxN (show r < 2 ^ 31 by omega)]
    have e35 : s.1 (x + 29 + 6) r = s.1 (x + 35) r := rfl
    have e34 : s.1 (x + 29 + 5) r = s.1 (x + 34) r := rfl
    rw [e35]
    by_cases q : s.1 (x + 35) r = nI w
    · rw [if_pos q, List.find?_cons_of_pos (by simp [q])]
    · rw [if_neg q, if_pos z7, zlet, e34, nI_1, ih _ (it + 1) j h2 (by omega) (by omega), List.find?_cons_of_neg (by simp [q])]
/-- the reactions of block bl, so far -/
def CH (x y bl nb : Nat) (l : List Nat) (s t : zσ) : Prop := cR x s (s.1 (x + 33) bl) l ∧ (∀ r, r ∈ l → bl < r ∧ r < nb) ∧ (∃ ws : List Nat, ws.length = l.length ∧ ws.Nodup ∧ ∀ w, w ∈ ws → w < 20 ∧ ¬ t.1 (y + 14) (20 * bl + w) = -1) ∧ (∀ w, w < 20 → (t.1 (y + 14) (20 * bl + w) = -1 ∧ l.find? (fun r => decide (s.1 (x + 35) r = nI w)) = none) ∨ (∃ r, r < 2 ^ 31 ∧ t.1 (y + 14) (20 * bl + w) = nI r ∧ l.find? (fun r => decide (s.1 (x + 35) r = nI w)) = some r))
theorem CH_len (h : CH x y bl nb l s t) : l.length ≤ 20 := by
  obtain ⟨-, -, ⟨ws, w1, w2, w3⟩, -⟩ := h
  rw [← w1]
  exact nd_len 20 ws w2 (fun a ha => (w3 a ha).1)
theorem CH_fr (h : CH x y bl nb l s t) (hn : nb ≤ nb2) (h33 : s2.1 (x + 33) bl = s.1 (x + 33) bl) (hb : ∀ r, r < nb → s2.1 (x + 34) r = s.1 (x + 34) r ∧ s2.1 (x + 35) r = s.1 (x + 35) r) (ht : ∀ w, w < 20 → t2.1 (y + 14) (20 * bl + w) = t.1 (y + 14) (20 * bl + w)) : CH x y bl nb2 l s2 t2 := by
  obtain ⟨h1, h2, ⟨ws, w1, w2, w3⟩, h4⟩ := h
  refine ⟨by rw [h33]; exact cR_f (fun r hr => (hb r (h2 r hr).2).1) h1, fun r hr => ⟨(h2 r hr).1, by have := (h2 r hr).2; omega⟩, ⟨ws, w1, w2, fun w hw => ⟨(w3 w hw).1, by rw [ht w (w3 w hw).1]; exact (w3 w hw).2⟩⟩, fun w hw => ?_⟩
  rw [ht w hw, find_f (fun r hr => (hb r (h2 r hr).2).2)]
  exact h4 w hw
/-- a reaction more -/
theorem CH_add {on w : Nat} (h : CH x y bl nb l s t) (hon : nb ≤ on ∧ on < nb2 ∧ on < 700) (hbn : bl < nb) (hw : w < 20) (hw1 : t.1 (y + 14) (20 * bl + w) = -1) (h33 : s2.1 (x + 33) bl = nI on) (ho4 : s2.1 (x + 34) on = s.1 (x + 33) bl) (ho5 : s2.1 (x + 35) on = nI w) (hb : ∀ r, r < nb → s2.1 (x + 34) r = s.1 (x + 34) r ∧ s2.1 (x + 35) r = s.1 (x + 35) r) (ht1 : t2.1 (y + 14) (20 * bl + w) = nI on) (ht : ∀ v, v < 20 → v ≠ w → t2.1 (y + 14) (20 * bl + v) = t.1 (y + 14) (20 * bl + v)) : CH x y bl nb2 (on :: l) s2 t2 := by
  obtain ⟨h1, h2, ⟨ws, w1, w2, w3⟩, h4⟩ := h
  refine ⟨⟨h33, hon.2.2, by rw [ho4]; exact cR_f (fun r hr => (hb r (h2 r hr).2).1) h1⟩, fun r hr => ?_, ⟨w :: ws, by simp [w1], ?_, fun v hv => ?_⟩, fun v hv => ?_⟩
  · rcases List.mem_cons.mp hr with e | e
    · subst e; omega
    · have := h2 r e; omega
  · refine List.nodup_cons.mpr ⟨fun hm => (w3 w hm).2 hw1, w2⟩
  · rcases List.mem_cons.mp hv with e | e
    · subst e; exact ⟨hw, by rw [ht1]; exact fun e => (neqM (by omega)).mp e⟩
    · have hne : v ≠ w := fun e2 => by subst e2; exact (w3 v e).2 hw1
      exact ⟨(w3 v e).1, by rw [ht v (w3 v e).1 hne]; exact (w3 v e).2⟩
  · have hf := find_f (w := v) (fun r hr => (hb r (h2 r hr).2).2)
    by_cases e : v = w
    · subst e
      refine Or.inr ⟨on, by omega, ht1, ?_⟩
      rw [List.find?_cons_of_pos (by simp [ho5])]
    · have hne : ¬ nI w = nI v := fun e2 => e ((nI_eq (by omega) (by omega)).mp e2).symm
      rw [List.find?_cons_of_neg (by simp [ho5, hne]), ht v hv e, hf]
      exact h4 v hv
theorem c_44p {w : Nat} (hn : 5000 ≤ n) (hbl : bl < 700) (h : CH x y bl nb l s t) (hw : w < 20) : (t.1 (y + 14) (20 * bl + w) = -1 → f44 n (x + 29) (nI bl) (nI w) s = some (-1, s)) ∧ (¬ t.1 (y + 14) (20 * bl + w) = -1 → ∃ r, r < 2 ^ 31 ∧ f44 n (x + 29) (nI bl) (nI w) s = some (nI r, s)) := by
  have hl := CH_len h
  have e : f44 n (x + 29) (nI bl) (nI w) s = f44_10 n n (x + 29) (nI w) (s.1 (x + 33) bl) (nI 0) s := by
    unfold f44
    rw [if_pos (zin_nI hbl (by decide)), nx_nI (show bl < 2 ^ 31 by omega)]
    rfl
  rw [e, cr_L l _ 0 n h.1 (by omega) (by omega)]
  rcases h.2.2.2 w hw with ⟨a1, a2⟩ | ⟨r, a0, a1, a2⟩
  · exact ⟨fun _ => by rw [a2], fun e => absurd a1 e⟩
  · exact ⟨fun e => by rw [a1] at e; exact absurd e (fun e => (neqM a0).mp e), fun _ => ⟨r, a0, by rw [a2]⟩⟩
/-- in block bl -/
def BI (U : Nat → Nat) (len x y : Nat) (s0 t0 : zσ) (K np : Nat) (tz : zσ) (G : Nat → Nat → Nat) (sS tS : zσ) (na0 bl cd0 dp : Nat) (kd w0 : Int32) (P : (Nat → Nat → Nat) → Prop) (er : Nat) (l : List Nat) (q nd cd us es na nb : Nat) (s t : zσ) : Prop := SR U len x y s0 t0 K np tz G bl (4 * na) q dp nd cd us es na nb s t ∧ (na0 ≤ na ∧ bl + 1 ≤ nb ∧ cd0 ≤ cd) ∧ (LC x K na0 bl cd0 sS s ∧ LM y na0 bl tS t) ∧ (s.1 (x + 30) bl = kd ∧ s.1 (x + 31) bl = w0) ∧ CH x y bl nb l s t ∧ (K = 1 → s.1 1004 12 = -1 → ∀ Gc, CP G Gc bl → dH Gc na0 (bl + 1) bl → ∃ G', GX Gc G' na0 (bl + 1) ∧ (∀ r, r ∈ l → G' 2 r = 4 ∧ G' 3 r = bl) ∧ P G' ∧ PD x y na0 na (bl + 1) nb cd er nb tz G' s t ∧ GK (bl + 1) nb G')
theorem Fut_wB {a1 a0 b1 c1 er eb a k a' k' : Nat} {v v' : Int32} (h1 : x + 30 ≤ a ∧ a ≤ x + 35 ∧ k = bl ∨ a < x + 20 ∨ x + 35 < a) (h2 : (a' = y + 13 ∧ k' = bl) ∨ (a' = y + 14 ∧ k' < 20 * bl + 20) ∨ a' < y + 13 ∨ y + 24 < a') : Fut x y a0 a1 (bl + 1) b1 c1 er eb G s t G (sI s a k v) (sI t a' k' v') :=
  ⟨GX_rf, fun r' p1 p2 => ⟨⟨fun j a b => hIx (by omega), fun j a b c d => hIx (by omega), fun k hk => ⟨hIx (by omega), hIx (by omega)⟩⟩, fun _ => ⟨hIx (by omega), hIx (by omega)⟩⟩, fun b p1 p2 => ⟨⟨fun j a => hIx (by omega), hIx (by omega), fun w hw => hIx (by omega)⟩, fun _ => ⟨hIx (by omega), hIx (by omega)⟩⟩, fun p hp => ⟨hIx (by omega), hIx (by omega)⟩⟩
end ZQL
