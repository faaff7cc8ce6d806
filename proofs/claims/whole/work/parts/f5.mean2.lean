/-! what the uses mean: all of them, and the counts of calls -/
section ZRP
variable {n y u N p m us : Nat} {t tz : zσ}
/-- tz with the meanings of the first u uses -/
def tzU (tz : zσ) (y u : Nat) : zσ := (fun a k => if a = y + 33 ∧ k < u then (zso tz y k).2 else if a = y + 34 ∧ k < u then (zso tz y k).1 else tz.1 a k, tz.2)
theorem tzU_1 {a : Nat} (h : a ≠ y + 33 ∧ a ≠ y + 34) : (tzU tz y u).1 a = tz.1 a := by
  funext k
  show (if a = y + 33 ∧ k < u then (zso tz y k).2 else if a = y + 34 ∧ k < u then (zso tz y k).1 else tz.1 a k) = _
  rw [if_neg (by omega), if_neg (by omega)]
theorem tzU_0 : tzU tz y 0 = tz := by
  refine Prod.ext (funext fun a => funext fun k => ?_) rfl
  show (if a = y + 33 ∧ k < 0 then (zso tz y k).2 else if a = y + 34 ∧ k < 0 then (zso tz y k).1 else tz.1 a k) = _
  rw [if_neg (by omega), if_neg (by omega)]
theorem tzU_M (h : nx (tz.1 y 34) = us) : tzU tz y us = tzMp tz y := by
  unfold tzU tzMp
  rw [h]
theorem tzU_s : sI (sI (tzU tz y u) (y + 34) u (zso tz y u).1) (y + 33) u (zso tz y u).2 = tzU tz y (u + 1) := by
  refine Prod.ext (funext fun a => funext fun k => ?_) rfl
  rw [gI, gI]
  show _ = (if a = y + 33 ∧ k < u + 1 then (zso tz y k).2 else if a = y + 34 ∧ k < u + 1 then (zso tz y k).1 else tz.1 a k)
  show (if a = y + 33 ∧ k = u then _ else if a = y + 34 ∧ k = u then _ else (if a = y + 33 ∧ k < u then (zso tz y k).2 else if a = y + 34 ∧ k < u then (zso tz y k).1 else tz.1 a k)) = _
  by_cases e1 : a = y + 33
  · by_cases e2 : k = u
    · rw [if_pos ⟨e1, e2⟩, if_pos ⟨e1, by omega⟩, e2]
    · rw [if_neg (by omega), if_neg (by omega)]
      by_cases e3 : k < u
      · rw [if_pos ⟨e1, e3⟩, if_pos ⟨e1, by omega⟩]
      · rw [if_neg (by omega), if_neg (by omega), if_neg (by omega), if_neg (by omega)]
  · rw [if_neg (by omega), if_neg (c := a = y + 33 ∧ k < u + 1) (by omega)]
    by_cases e4 : a = y + 34
    · by_cases e2 : k = u
      · rw [if_pos ⟨e4, e2⟩, if_pos ⟨e4, by omega⟩, e2]
      · rw [if_neg (by omega), if_neg (by omega)]
        by_cases e3 : k < u
        · rw [if_pos ⟨e4, e3⟩, if_pos ⟨e4, by omega⟩]
        · rw [if_neg (by omega), if_neg (by omega)]
    · rw [if_neg (by omega), if_neg (by omega), if_neg (by omega), if_neg (by omega)]
theorem nmF_U {nm : Int64} : ∀ m, nmF (tzU tz y u) y nm m = nmF tz y nm m
  | 0 => rfl
  | m + 1 => by
    show (if tz.2.1 (y + 1) m = nm then ((tzU tz y u).1 (y + 2) m, (tzU tz y u).1 (y + 3) m) else nmF (tzU tz y u) y nm m) = (if tz.2.1 (y + 1) m = nm then (tz.1 (y + 2) m, tz.1 (y + 3) m) else nmF tz y nm m)
    rw [nmF_U m, tzU_1 (by omega), tzU_1 (by omega)]
theorem paF_U {nm : Int64} {a : Int32 × Int32} : ∀ m, paF (tzU tz y u) y p nm a m = paF tz y p nm a m
  | 0 => rfl
  | m + 1 => by
    show (if tz.2.1 (y + 12) (3 * p + m) = nm then ((9 : Int32), nI m) else paF (tzU tz y u) y p nm a m) = (if tz.2.1 (y + 12) (3 * p + m) = nm then ((9 : Int32), nI m) else paF tz y p nm a m)
    rw [paF_U m]
theorem zso_U {k : Nat} : zso (tzU tz y u) y k = zso tz y k := by
  unfold zso
  rw [tzU_1 (by omega), tzU_1 (by omega), tzU_1 (by omega), nmF_U, paF_U]
  rfl
theorem ok_U {k : Nat} (h : ok32 tz y k) : ok32 (tzU tz y u) y k := by
  unfold ok32 at h ⊢
  rw [tzU_1 (by omega), tzU_1 (by omega)]; exact h
theorem m_7 (hn : 5000 ≤ n) (hy : y = 1134 ∨ y = 1170) (h34 : tz.1 y 34 = nI us) (hus : us ≤ 1400) (hN : N ≤ 60) (h0 : tz.1 y 0 = nI N) (h9 : tz.1 1132 9 = 0) : ∀ (d u j : Nat), u + d ≤ us → (∀ v, u ≤ v → v < u + d → iO tz y v) → f203_7 n (j + d) y (nI u) (tzU tz y u) = f203_7 n j y (nI (u + d)) (tzU tz y (u + d)) := by
  intro d
  induction d with
  | zero => intro u j _ _; rfl
  | succ d ih =>
    intro u j hd hv
    have g9 : (tzU tz y u).1 1132 9 = 0 := by rw [tzU_1 (by omega)]; exact h9
    have g34 : (tzU tz y u).1 y 34 = nI us := by rw [tzU_1 (by omega)]; exact h34
    have g0 : (tzU tz y u).1 y 0 = nI N := by rw [tzU_1 (by omega)]; exact h0
    obtain ⟨i1, i2⟩ := hv u (Nat.le_refl _) (by omega)
    have hI : ((tzU tz y u).1 (y + 31) u = 10 → (zso tz y u).1 = 0 ∨ (zso tz y u).1 = 9) ∧ (¬ (tzU tz y u).1 (y + 31) u = 10 → (zso tz y u).1 = (tzU tz y u).1 (y + 31) u) := by
      rw [tzU_1 (by omega)]; exact i1
    rw [show j + (d + 1) = (j + d) + 1 by omega, f203_7, g34, if_pos (nI_lt (by omega) (by omega)), m_goes g9, yb1_s, if_neg n10, show (0 : Int32) = nI 0 from rfl, m_mean hn (by omega) hN g0 (ok_U i2), zso_U, (m_143 (by omega)).1 hI, tzU_s, ih (u + 1) j (by omega) (fun v p1 p2 => hv v (by omega) (by omega)), show u + 1 + d = u + (d + 1) by omega]
/-- all uses have a meaning -/
theorem m_203 (hn : 5000 ≤ n) (hy : y = 1134 ∨ y = 1170) (hyt : tz.2.2 1132 12 = some y) (h34 : tz.1 y 34 = nI us) (hus : us ≤ 1400) (hN : N ≤ 60) (h0 : tz.1 y 0 = nI N) (h9 : tz.1 1132 9 = 0) (hv : ∀ v, v < us → iO tz y v) : f203 n tz = f203_229 n n y (nI 0) (tzMp tz y) := by
  unfold f203
  rw [hyt, grd (gck12 hy)]
  have g := m_7 hn hy h34 hus hN h0 h9 us 0 (n - us) (by omega) (fun v _ p2 => hv v (by omega))
  rw [tzU_0, show n - us + us = n by omega, Nat.zero_add] at g
  rw [show (0 : Int32) = nI 0 from rfl, g]
  obtain ⟨j, hj⟩ : ∃ j, n - us = j + 1 := ⟨n - us - 1, by omega⟩
  have g34 : (tzU tz y us).1 y 34 = nI us := by rw [tzU_1 (by omega)]; exact h34
  rw [hj, f203_7, g34, if_neg Int32.lt_irrefl, tzU_M (by rw [h34, nx_nI (by omega)])]
  rfl
/-- one has none -/
theorem m_203b {u0 z : Nat} (hn : 5000 ≤ n) (hy : y = 1134 ∨ y = 1170) (hyt : tz.2.2 1132 12 = some y) (h34 : tz.1 y 34 = nI us) (hus : us ≤ 1400) (hN : N ≤ 60) (h0 : tz.1 y 0 = nI N) (h9 : tz.1 1132 9 = 0) (hu0 : u0 < us) (hv : ∀ v, v < u0 → iO tz y v) (hk : ok32 tz y u0) (hb : ¬ isO tz y u0) (hz : tz.1 (y + 30) u0 = nI z) : ∃ t2, f203 n tz = some t2 ∧ t2.1 1132 9 = 6 ∧ t2.1 1132 10 = nI z ∧ t2.2 = tz.2 ∧ (∀ a, a ≠ 1132 → a ≠ y + 33 → a ≠ y + 34 → t2.1 a = tz.1 a) ∧ (∀ k, k ≠ 9 → k ≠ 10 → t2.1 1132 k = tz.1 1132 k) := by
  unfold f203
  rw [hyt, grd (gck12 hy)]
  have g := m_7 hn hy h34 hus hN h0 h9 u0 0 (n - u0) (by omega) (fun v _ p2 => hv v (by omega))
  rw [tzU_0, show n - u0 + u0 = n by omega, Nat.zero_add] at g
  rw [show (0 : Int32) = nI 0 from rfl, g]
  obtain ⟨j, hj⟩ : ∃ j, n - u0 = (j + 1) + 1 := ⟨n - u0 - 2, by omega⟩
  have g9 : (tzU tz y u0).1 1132 9 = 0 := by rw [tzU_1 (by omega)]; exact h9
  have g34 : (tzU tz y u0).1 y 34 = nI us := by rw [tzU_1 (by omega)]; exact h34
  have g0 : (tzU tz y u0).1 y 0 = nI N := by rw [tzU_1 (by omega)]; exact h0
  have hI : ¬ (((tzU tz y u0).1 (y + 31) u0 = 10 → (zso tz y u0).1 = 0 ∨ (zso tz y u0).1 = 9) ∧ (¬ (tzU tz y u0).1 (y + 31) u0 = 10 → (zso tz y u0).1 = (tzU tz y u0).1 (y + 31) u0)) := by
    rw [tzU_1 (by omega)]; exact hb
  have e173 : f173 n 6 ((tzU tz y u0).1 (y + 30) u0) (tzU tz y u0) = some (sI (sI (tzU tz y u0) 1132 9 6) 1132 10 (nI z)) := by
    unfold f173
    rw [if_pos g9, tzU_1 (by omega), hz]
    rfl
  rw [hj, f203_7, g34, if_pos (nI_lt hu0 (by omega)), m_goes g9, yb1_s, if_neg n10, show (0 : Int32) = nI 0 from rfl, m_mean hn (by omega) hN g0 (ok_U hk), zso_U, (m_143 (by omega)).2 hI, e173, yb0_s]
  obtain ⟨t2, ht2⟩ : ∃ t2, t2 = sI (sI (sI (sI (tzU tz y u0) 1132 9 6) 1132 10 (nI z)) (y + 34) u0 (zso tz y u0).1) (y + 33) u0 (zso tz y u0).2 := ⟨_, rfl⟩
  rw [← ht2]
  have k9 : t2.1 1132 9 = 6 := by rw [ht2, hIo (by omega), hIo (by omega), hIk (by decide)]; exact hIe
  have k34 : t2.1 y 34 = nI us := by rw [ht2, hIo (by omega), hIo (by omega), hIo (by omega), hIo (by omega)]; exact g34
  have ne : ¬ t2.1 1132 9 = 0 := by rw [k9]; decide
  have e229 : f203_227 n y t2 = some t2 := by
    unfold f203_227
    obtain ⟨i, rfl⟩ : ∃ i, n = i + 1 := ⟨n - 1, by omega⟩
    rw [f203_229, k34, if_pos (show (0 : Int32) < nI us from nI_lt (a := 0) (by omega) (by omega)), m_goes0 ne, yb1_s, if_pos rfl]
  refine ⟨t2, ?_, k9, ?_, by rw [ht2]; rfl, fun a p1 p2 p3 => ?_, fun k p1 p2 => ?_⟩
  · rw [f203_7, k34]
    by_cases hl : u0 + 1 < us
    · rw [if_pos (nI_lt hl (by omega)), m_goes0 ne, yb1_s, if_pos rfl]; exact e229
    · rw [if_neg (nI_nlt (by omega) (by omega))]; exact e229
  · rw [ht2, hIo (by omega), hIo (by omega)]; exact hIe
  · rw [ht2, hIo p2, hIo p3, hIo p1, hIo p1]; exact tzU_1 ⟨p2, p3⟩
  · rw [ht2, hIo (by omega), hIo (by omega), hIk p2, hIk p1, tzU_1 (by omega)]
end ZRP
